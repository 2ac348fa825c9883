/-! ===== chance ===== -/
theorem zL_and1 (a : Nat) : zL a &&& 1 = zL (a % 2) := by
  apply Int64.toBitVec_inj.mp
  apply BitVec.eq_of_toNat_eq
  rw [Int64.toBitVec_and, BitVec.toNat_and]
  show (a % 2 ^ 64) &&& 1 = a % 2 % 2 ^ 64
  rw [Nat.and_one_is_mod]
  omega
theorem zL_amt : ∀ n, n < 63 → (((nI n).toInt64 &&& 63).toBitVec.smod 64) = BitVec.ofNat 64 n := by decide +kernel
theorem zL_shr1 {a : Nat} (h : a < 2 ^ 63) : zL a >>> ((nI 1).toInt64 &&& 63) = zL (a / 2) := by
  apply Int64.toBitVec_inj.mp
  apply BitVec.eq_of_toNat_eq
  rw [Int64.toBitVec_shiftRight, zL_amt 1 (by decide)]
  show ((BitVec.ofNat 64 a).sshiftRight (BitVec.ofNat 64 1).toNat).toNat = (a / 2) % 2 ^ 64
  rw [BitVec.sshiftRight_eq_of_msb_false (by rw [BitVec.msb_eq_false_iff_two_mul_lt]; rw [BitVec.toNat_ofNat]; omega), BitVec.toNat_ushiftRight, BitVec.toNat_ofNat]
  show (a % 2 ^ 64) >>> 1 = _
  rw [Nat.shiftRight_eq_div_pow]
  omega
theorem zL_1shl {n : Nat} (h : n < 63) : (1 : Int64) <<< ((nI n).toInt64 &&& 63) = zL (2 ^ n) := by
  apply Int64.toBitVec_inj.mp
  apply BitVec.eq_of_toNat_eq
  rw [Int64.toBitVec_shiftLeft, zL_amt n h]
  show (1#64 <<< (BitVec.ofNat 64 n)).toNat = _
  rw [BitVec.shiftLeft_eq', BitVec.toNat_shiftLeft, BitVec.toNat_ofNat]
  show (1 <<< (n % 2 ^ 64)) % 2 ^ 64 = 2 ^ n % 2 ^ 64
  rw [Nat.mod_eq_of_lt (show n < 2 ^ 64 by omega), Nat.shiftLeft_eq, Nat.one_mul]
theorem zL_i {n : Nat} (h : n < 2 ^ 31) : (nI n).toInt64 = zL n := nI_l h
theorem zL_add (a b : Nat) : zL a + zL b = zL (a + b) := lN_add a b
theorem zL_mul (a b : Nat) : zL a * zL b = zL (a * b) := lN_mul a b
theorem zL_eq {a b : Nat} (ha : a < 2 ^ 63) (hb : b < 2 ^ 63) : (zL a = zL b) = (a = b) := propext (pk_lEQ ha hb)
theorem zL_c0 {a : Nat} (ha : a < 2 ^ 63) : (lg_cmp (zL a) 0 = 0) = (a = 0) := propext ((lg_cmp_eq _ _).trans (pk_lEQ (b := 0) ha (by decide)))
theorem zL_cle {a : Nat} (ha : a < 2 ^ 63) : (lg_cmp (zL a) 0 ≤ 0) = (a = 0) := propext ((lg_cmp_le _ _).trans ((pk_lLE (b := 0) ha (by decide)).trans ⟨fun h => Nat.le_zero.mp h, fun h => by omega⟩))
theorem ygo : ∀ {a : Nat}, a % 2 = 1 → ∀ i, Nat.gcd a (2 ^ i) = 1 := fun {a} h i => Nat.Coprime.gcd_eq_one (Nat.Coprime.pow_right i (by
  show Nat.gcd a 2 = 1
  rw [Nat.gcd_comm, Nat.gcd_rec, h]
  rfl))
theorem yge {a i : Nat} (h : a % 2 = 0) : Nat.gcd a (2 ^ (i + 1)) = 2 * Nat.gcd (a / 2) (2 ^ i) := by
  have e1 : a = 2 * (a / 2) := by omega
  have e2 : 2 ^ (i + 1) = 2 * 2 ^ i := by rw [Nat.pow_succ]; omega
  rw [e2]
  conv => lhs; rw [e1]
  exact Nat.gcd_mul_left 2 (a / 2) (2 ^ i)
theorem zwt_le {c : Nat} (hc : c ≤ 16) (w : Nat) : ∀ e, zwt c w e ≤ 16 ^ e
  | 0 => Nat.le_refl _
  | e + 1 => by
    show zwt c w e * (if w.testBit e = true then 16 - c else c) ≤ 16 ^ (e + 1)
    rw [Nat.pow_succ]
    exact Nat.mul_le_mul (zwt_le hc w e) (by split <;> omega)
theorem zwt_s (c w e : Nat) : zwt c w (e + 1) = zwt c w e * (if w.testBit e = true then 16 - c else c) := rfl
theorem z16 {n : Nat} (h : n ≤ 8) : 16 ^ n ≤ 2 ^ 32 := Nat.le_trans (Nat.pow_le_pow_right (by decide) h) (by decide)
theorem zos_s (τ : zTd) (c h p w : Nat) : zos τ c h p (w + 1) = zos τ c h p w + (if zbi (ynp τ) (yRt τ w) h p = true ∧ p < ynp τ then zwt c w (yne τ) else 0) := rfl
theorem zos_le {τ : zTd} {c : Nat} (hc : c ≤ 16) (h p : Nat) : ∀ w, zos τ c h p w ≤ w * 16 ^ yne τ
  | 0 => Nat.zero_le _
  | w + 1 => by
    have h1 := zos_le (τ := τ) hc h p w
    have h2 := zwt_le hc w (yne τ)
    rw [zos_s, Nat.succ_mul]
    split <;> omega
theorem zos_lt {τ : zTd} {c : Nat} (hc : c ≤ 16) (hn : yne τ ≤ 8) (h p : Nat) {w : Nat} (hw : w ≤ 2 ^ yne τ) : zos τ c h p w < 2 ^ 62 := by
  have h1 := zos_le (τ := τ) hc h p w
  have h2 : w * 16 ^ yne τ ≤ 2 ^ 8 * 2 ^ 32 := Nat.mul_le_mul (Nat.le_trans hw (Nat.pow_le_pow_right (by decide) hn)) (z16 hn)
  have h3 : 2 ^ 8 * 2 ^ 32 < 2 ^ 62 := by decide
  omega
def yCh (s m w : Nat) : Nat := if w = 0 then s / Nat.gcd s (2 ^ m) else 2 ^ m / Nat.gcd s (2 ^ m)
set_option maxRecDepth 100000 in
set_option maxHeartbeats 400000 in
theorem zs_weight9_l {τ : zTd} {μ : zq_Me} (h11 : μ.1 11 3 = nI (yne τ)) (hne : yne τ ≤ 8) {c w : Nat} (hc : c ≤ 16) (hw : w < 2 ^ 31) : ∀ (j e : Nat), e + j = yne τ → zq_Wp zn_X8_weightOf 5 [(0, .ref 0), (1, .int (nI c)), (2, .int (nI w)), (3, .long (zL ((zwt c w e)))), (5, .int (nI e))] [] μ (fun r μ1 => r = some (.long (zL (zwt c w (yne τ)))) ∧ μ = μ1) := by
  intro j
  induction j with
  | zero =>
    intro e hij
    obtain rfl : e = yne τ := by omega
    refine zq_go zt_X8_weightOf 5 [] (if (μ.1 11 3) ≤ (nI (yne τ)) then 45 else 17) [(0, .ref 0), (1, .int (nI c)), (2, .int (nI w)), (3, .long (zL ((zwt c w (yne τ))))), (5, .int (nI (yne τ)))] [] μ rfl trivial ?_
    rw [h11]
    rw [if_pos (by rw [zn_le (by omega) (by omega)]; omega)]
    refine zq_go zt_X8_weightOf 1 [] 46 [(0, .ref 0), (1, .int (nI c)), (2, .int (nI w)), (3, .long (zL ((zwt c w (yne τ))))), (5, .int (nI (yne τ)))] [.long (zL ((zwt c w (yne τ))))] μ rfl trivial ?_
    exact zq_retn zt_X8_weightOf rfl rfl (⟨rfl, rfl⟩)
  | succ j ih =>
    intro e hij
    have h9 := ih (e + 1) (by omega)
    rw [zwt_s] at h9
    refine zq_go zt_X8_weightOf 5 [] (if (μ.1 11 3) ≤ (nI e) then 45 else 17) [(0, .ref 0), (1, .int (nI c)), (2, .int (nI w)), (3, .long (zL ((zwt c w e)))), (5, .int (nI e))] [] μ rfl trivial ?_
    rw [h11]
    rw [if_neg (by rw [zn_le (by omega) (by omega)]; omega)]
    refine zq_go zt_X8_weightOf 7 [] (if ¬ (((nI w) >>> ((nI e) &&& 31)) &&& (nI 1)) = 0 then 32 else 27) [(0, .ref 0), (1, .int (nI c)), (2, .int (nI w)), (3, .long (zL ((zwt c w e)))), (5, .int (nI e))] [.long (zL ((zwt c w e)))] μ rfl trivial ?_
    refine zq_ite (fun h20 => ?_) (fun h20 => ?_)
    · rw [zn_bit hw (by omega), zB_bit] at h20
      have h7 := zB_t h20
      rw [h7, if_pos rfl] at h9
      refine zq_go zt_X8_weightOf 8 [] 5 [(0, .ref 0), (1, .int (nI c)), (2, .int (nI w)), (3, .long ((zL ((zwt c w e))) * (((nI 16) - (nI c)).toInt64))), (5, .int ((nI e) + (nI 1)))] [] μ rfl trivial ?_
      rw [zn_sub (show c ≤ 16 by omega), zn_add e 1]
      rw [zL_i (by omega), zL_mul]
      exact h9
    · rw [zn_bit hw (by omega), zB_bit] at h20
      have h7 := zB_f (Classical.not_not.mp h20)
      rw [h7, if_neg (by decide)] at h9
      refine zq_go zt_X8_weightOf 3 [] 37 [(0, .ref 0), (1, .int (nI c)), (2, .int (nI w)), (3, .long (zL ((zwt c w e)))), (5, .int (nI e))] [.long ((nI c).toInt64), .long (zL ((zwt c w e)))] μ rfl trivial ?_
      refine zq_go zt_X8_weightOf 4 [] 5 [(0, .ref 0), (1, .int (nI c)), (2, .int (nI w)), (3, .long ((zL ((zwt c w e))) * ((nI c).toInt64))), (5, .int ((nI e) + (nI 1)))] [] μ rfl trivial ?_
      rw [zn_add e 1]
      rw [zL_i (by omega), zL_mul]
      exact h9
set_option maxRecDepth 100000 in
set_option maxHeartbeats 400000 in
theorem zs_weight9 {τ : zTd} {μ : zq_Me} (h11 : μ.1 11 3 = nI (yne τ)) (hne : yne τ ≤ 8) {c w : Nat} (hc : c ≤ 16) (hw : w < 2 ^ 31) : zq_Wp zn_X8_weightOf 0 [(0, .ref 0), (1, .int (nI c)), (2, .int (nI w))] [] μ (fun r μ1 => r = some (.long (zL (zwt c w (yne τ)))) ∧ μ = μ1) := by
  refine zq_go zt_X8_weightOf 4 [] 5 [(0, .ref 0), (1, .int (nI c)), (2, .int (nI w)), (3, .long 1), (5, .int (nI 0))] [] μ rfl trivial ?_
  exact zs_weight9_l h11 hne hc hw (yne τ) 0 (by omega)
set_option maxRecDepth 100000 in
set_option maxHeartbeats 400000 in
theorem zs_addOdds_l {n W : Nat} (hn : n < 2 ^ 31) {μ0 : zq_Me} : ∀ (j p : Nat) (μ : zq_Me), p + j = 8 → (zq_fr [49] μ0 μ ∧ ∀ q, q < 8 → μ.2.1 49 q = if q < p ∧ n.testBit q = true then μ0.2.1 49 q + zL W else μ0.2.1 49 q) → zq_Wp zn_X8_addOdds 3 [(0, .ref 0), (1, .int (nI n)), (2, .long (zL W)), (4, .int (nI p))] [] μ (fun r μ => r = none ∧ zq_fr [49] μ0 μ ∧ ∀ q, q < 8 → μ.2.1 49 q = if n.testBit q = true then μ0.2.1 49 q + zL W else μ0.2.1 49 q) := by
  intro j
  induction j with
  | zero =>
    rintro p μ hij ⟨hF, hA⟩
    obtain rfl : p = 8 := by omega
    refine zq_go zt_X8_addOdds 3 [] (if (nI 8) ≤ (nI 8) then 36 else 10) [(0, .ref 0), (1, .int (nI n)), (2, .long (zL W)), (4, .int (nI 8))] [] μ rfl trivial ?_
    rw [if_pos (by decide)]
    have hA9 : ∀ q, q < 8 → μ.2.1 49 q = if n.testBit q = true then μ0.2.1 49 q + zL W else μ0.2.1 49 q := fun q hq => by
      rw [hA q hq]
      by_cases t : n.testBit q = true
      · rw [if_pos ⟨hq, t⟩, if_pos t]
      · rw [if_neg (fun x => t x.2), if_neg t]
    exact zq_retn zt_X8_addOdds rfl rfl (⟨rfl, hF, hA9⟩)
  | succ j ih =>
    rintro p μ hij ⟨hF, hA⟩
    refine zq_go zt_X8_addOdds 3 [] (if (nI 8) ≤ (nI p) then 36 else 10) [(0, .ref 0), (1, .int (nI n)), (2, .long (zL W)), (4, .int (nI p))] [] μ rfl trivial ?_
    rw [if_neg (by rw [zn_le (by omega) (by omega)]; omega)]
    refine zq_go zt_X8_addOdds 6 [] (if (((nI n) >>> ((nI p) &&& 31)) &&& (nI 1)) = 0 then 30 else 19) [(0, .ref 0), (1, .int (nI n)), (2, .long (zL W)), (4, .int (nI p))] [] μ rfl trivial ?_
    refine zq_ite (fun h18 => ?_) (fun h18 => ?_)
    · rw [zn_bit hn (by omega), zB_bit] at h18
      have h7 := zB_f h18
      refine zq_go zt_X8_addOdds 2 [] 3 [(0, .ref 0), (1, .int (nI n)), (2, .long (zL W)), (4, .int ((nI p) + (nI 1)))] [] μ rfl trivial ?_
      rw [zn_add p 1]
      refine ih (p + 1) μ (by omega) ⟨hF, fun q hq => ?_⟩
      rw [hA q hq]
      by_cases t : q < p ∧ n.testBit q = true
      · rw [if_pos t, if_pos ⟨by omega, t.2⟩]
      · rw [if_neg t, if_neg (fun x => t ⟨by
          by_cases e : q = p
          · rw [e, h7] at x; exact absurd x.2 (by decide)
          · have := x.1; omega, x.2⟩)]
    · rw [zn_bit hn (by omega), zB_bit] at h18
      have h7 := zB_t h18
      refine zq_go zt_X8_addOdds 10 [vp_in (nI p) 8, vp_in (nI p) 8] 3 [(0, .ref 0), (1, .int (nI n)), (2, .long (zL W)), (4, .int ((nI p) + (nI 1)))] [] (zq_u2 μ 49 ((nI p).toNatClampNeg) ((μ.2.1 49 ((nI p).toNatClampNeg)) + (zL W))) rfl ⟨zn_in (k := p) rfl (by omega) (by decide), ⟨zn_in (k := p) rfl (by omega) (by decide), trivial⟩⟩ ?_
      rw [zn_add p 1, zn_cl (n := p) (by omega)]
      refine ih (p + 1) _ (by omega) ⟨hF.u2 (by simp), fun q hq => ?_⟩
      rw [zq_u2_rd]
      by_cases e : q = p
      · rw [if_pos e, e, if_pos ⟨by omega, h7⟩, hA p (by omega), if_neg (fun x => Nat.lt_irrefl _ x.1)]
      · rw [if_neg e, hA q hq]
        by_cases t : q < p ∧ n.testBit q = true
        · rw [if_pos t, if_pos ⟨by omega, t.2⟩]
        · rw [if_neg t, if_neg (fun x => t ⟨by have := x.1; omega, x.2⟩)]
set_option maxRecDepth 100000 in
set_option maxHeartbeats 400000 in
theorem zs_addOdds {n W : Nat} (hn : n < 2 ^ 31) {μ0 : zq_Me} : zq_Wp zn_X8_addOdds 0 [(0, .ref 0), (1, .int (nI n)), (2, .long (zL W))] [] μ0 (fun r μ => r = none ∧ zq_fr [49] μ0 μ ∧ ∀ q, q < 8 → μ.2.1 49 q = if n.testBit q = true then μ0.2.1 49 q + zL W else μ0.2.1 49 q) := by
  refine zq_go zt_X8_addOdds 2 [] 3 [(0, .ref 0), (1, .int (nI n)), (2, .long (zL W)), (4, .int (nI 0))] [] μ0 rfl trivial ?_
  exact zs_addOdds_l hn 8 0 μ0 (by omega) ⟨zq_fr.rf, fun q hq => by rw [if_neg (fun x => absurd x.1 (Nat.not_lt_zero q))]⟩
theorem zs_try11x {nd np ne wo ld : Nat} {o1 o2 srt stt bed ek eh en : Nat → Nat} {μ : zq_Me} (hl : ld ≤ 9) (hw : wo < 2 ^ 31) (h8 : ne ≤ 8) (hD : zD nd o1 o2 μ) (hE : zEv 11 3 12 13 14 ne ek eh en μ) (hP : zP40 np srt stt bed μ) (hK : zK40 nd o1 o2 μ) : zq_Wp zn_X7_runWith 0 [(0, .ref 40), (1, .ref 11), (2, .int (nI wo)), (3, .int (nI ld))] [] μ (fun r μ1 => r = none ∧ zq_fr [5, 40, 41, 42, 43, 44, 45, 46] μ μ1 ∧ zK40 nd o1 o2 μ1 ∧ (∀ i, i ≠ 9 → i ≠ 10 → μ1.1 40 i = μ.1 40 i) ∧ zQ40 np (zR (zNx nd o1 o2 (zSh ek eh en wo ne)) srt stt bed (zHm ek eh en wo ne) ld np) μ1) := by
  refine zq_Wp_mono (zs_rw40_11 hl hw (zsp_8 (Or.inl h8)) hD hE hP hK) ?_
  rintro _ μ1 ⟨rfl, f1, s1, k1, w1, r1⟩
  have hn := hE.n
  exact ⟨rfl, f1, k1, s1, hP.1, by rw [f1.a (b := 6) (by decide)]; exact hP.2.1, fun p h hp hh => ⟨r1 p h hp hh, zR_lt (np := np) zNx_lt (fun q hq => ⟨(hP.2.2 q hq).2.1, (hP.2.2 q hq).2.2.2.1, (hP.2.2 q hq).2.2.2.2.2⟩) (fun i _ => (zh_lt hn (i + 1)).1) hp hh⟩⟩
theorem zIc.od {τ : zTd} {S : zES} {H : zSH} {μ μ1 : zq_Me} (h : zIc τ S H μ) (hf : zq_fr [0, 5, 40, 41, 42, 43, 44, 45, 46, 49] μ μ1) (h0 : ∀ i, i ≠ 15 → i ≠ 16 → μ1.1 0 i = μ.1 0 i) (hg : zCg τ μ1) (ho : zCo τ μ1) : zIc τ S H μ1 := by
  obtain ⟨a, b, d, e, f, g, o, s, k, hk⟩ := h
  exact ⟨a.fr hf (by decide), b.fr hf (by decide), ⟨by rw [h0 12 (by decide) (by decide)]; exact d.1, d.2⟩, e.fr hf (by decide), f.fr (h0 14 (by decide) (by decide)) hf (by decide), hg, ho, s.sl (by rw [hf.a (b := 20) (by decide)]) (hf.a (by decide)) (hf.a (by decide)) (hf.a (by decide)), k.sl (h0 13 (by decide) (by decide)) (fun b h1 h2 => hf.a (by simp; omega)), hk⟩
set_option maxRecDepth 100000 in
set_option maxHeartbeats 400000 in
theorem zs_weigh_l {τ : zTd} {S : zES} {H : zSH} {μ0 : zq_Me} (hC : zIc τ S H μ0) {c h : Nat} (hc : c ≤ 16) (hh : h < 24) : ∀ (j w : Nat) (μ : zq_Me), w + j = 2 ^ yne τ → (zq_fr [5, 40, 41, 42, 43, 44, 45, 46, 49] μ0 μ ∧ zK40 (ynd τ) (yo1 τ) (yo2 τ) μ ∧ μ.1 40 11 = -1 ∧ ∀ p, p < 8 → μ.2.1 49 p = zL (zos τ c h p w)) → zq_Wp zn_X8_weighOdds 27 [(0, .ref 0), (1, .int (nI c)), (2, .int (nI h)), (3, .int (nI w))] [] μ (fun r μ => r = none ∧ zIc τ S H μ ∧ zq_fr [0, 5, 40, 41, 42, 43, 44, 45, 46, 49] μ0 μ ∧ ∀ p, p < 8 → μ.2.1 49 p = zL (zod τ c h p)) := by
  have hne := hC.2.2.2.1.2
  have hl9 := hC.2.2.1.2.2
  have hpw : 2 ^ yne τ ≤ 2 ^ 8 := Nat.pow_le_pow_right (by decide) hne
  intro j
  induction j with
  | zero =>
    rintro w μ hij ⟨hF, hK, hw11, hO⟩
    obtain rfl : w = 2 ^ yne τ := by omega
    have h11 : μ.1 11 3 = nI (yne τ) := by rw [hF.a (b := 11) (by decide)]; exact hC.2.2.2.1.1.2.1
    have hld : μ.1 0 12 = nI (yld τ) := by rw [hF.a (b := 0) (by decide)]; exact hC.2.2.1.1
    refine zq_go zt_X8_weighOdds 7 [] (if ((nI 1) <<< ((μ.1 11 3) &&& 31)) ≤ (nI (2 ^ yne τ)) then 91 else 40) [(0, .ref 0), (1, .int (nI c)), (2, .int (nI h)), (3, .int (nI (2 ^ yne τ)))] [] μ rfl trivial ?_
    rw [h11]
    rw [if_pos (by rw [zn_1shl (by omega), zn_le (by omega) (by omega)]; exact Nat.le_refl _)]
    refine zq_go zt_X8_weighOdds 6 [] 101 [(0, .ref 0), (1, .int (nI c)), (2, .int (nI h)), (3, .int (nI (2 ^ yne τ)))] [] (zq_u1 (zq_u1 μ 0 15 (nI c)) 0 16 (nI h)) rfl trivial ?_
    obtain ⟨μ4, hμ4⟩ : ∃ k9 : zq_Me, k9 = (zq_u1 (zq_u1 μ 0 15 (nI c)) 0 16 (nI h)) := ⟨_, rfl⟩
    rw [← hμ4]
    have f4 : zq_fr [0] μ μ4 := by rw [hμ4]; exact (zq_fr.rf.u1 (by simp)).u1 (by simp)
    have hO4 : ∀ p, p < 8 → μ4.2.1 49 p = zL (zod τ c h p) := fun p hp => by rw [f4.l (b := 49) (by decide)]; exact hO p hp
    have hF4 : zq_fr [0, 5, 40, 41, 42, 43, 44, 45, 46, 49] μ0 μ4 := (hF.wk (by simp +contextual)).tr (f4.wk (by simp))
    have hI : zIc τ S H μ4 := hC.od hF4 (fun i h1 h2 => by rw [hμ4, zq_u1_o2 h2, zq_u1_o2 h1, hF.a (b := 0) (by decide)]) ⟨by rw [f4.a (b := 40) (by decide)]; exact hw11, by unfold zK40; rw [f4.a (b := 46) (by decide), f4.a (b := 45) (by decide)]; exact hK⟩ (Or.inr ⟨c, h, hc, hh, by rw [hμ4, zq_u1_o2 (by decide), zq_u1_s], by rw [hμ4, zq_u1_s], hO4⟩)
    exact zq_retn zt_X8_weighOdds rfl rfl (⟨rfl, hI, hF4, hO4⟩)
  | succ j ih =>
    rintro w μ hij ⟨hF, hK, hw11, hO⟩
    have h11 : μ.1 11 3 = nI (yne τ) := by rw [hF.a (b := 11) (by decide)]; exact hC.2.2.2.1.1.2.1
    have hld : μ.1 0 12 = nI (yld τ) := by rw [hF.a (b := 0) (by decide)]; exact hC.2.2.1.1
    have hW := zwt_le hc w (yne τ)
    have hW2 := z16 hne
    refine zq_go zt_X8_weighOdds 7 [] (if ((nI 1) <<< ((μ.1 11 3) &&& 31)) ≤ (nI w) then 91 else 40) [(0, .ref 0), (1, .int (nI c)), (2, .int (nI h)), (3, .int (nI w))] [] μ rfl trivial ?_
    rw [h11]
    rw [if_neg (by rw [zn_1shl (by omega), zn_le (by omega) (by omega)]; omega)]
    refine zq_go zt_X8_weighOdds 3 [] 43 [(0, .ref 0), (1, .int (nI c)), (2, .int (nI h)), (3, .int (nI w))] [.int (nI w), .int (nI c), .ref 0] μ rfl trivial ?_
    refine zq_call zt_X8_weighOdds [.ref 0, .int (nI c), .int (nI w)] [] (zs_weight9 h11 hne hc (show w < 2 ^ 31 by omega)) rfl rfl ?_
    rintro _ _ ⟨rfl, rfl⟩
    refine zq_go zt_X8_weighOdds 5 [] (if (lg_cmp (zL ((zwt c w (yne τ)))) 0) = 0 then 85 else 55) [(0, .ref 0), (1, .int (nI c)), (2, .int (nI h)), (3, .int (nI w)), (4, .long (zL ((zwt c w (yne τ)))))] [] μ rfl trivial ?_
    refine zq_ite (fun h34 => ?_) (fun h34 => ?_)
    · rw [zL_c0 (by omega)] at h34
      refine zq_go zt_X8_weighOdds 2 [] 27 [(0, .ref 0), (1, .int (nI c)), (2, .int (nI h)), (3, .int ((nI w) + (nI 1))), (4, .long (zL ((zwt c w (yne τ)))))] [] μ rfl trivial ?_
      rw [zn_add w 1]
      exact zq_drp [0, 1, 2, 3] _ rfl (ih (w + 1) μ (by omega) ⟨hF, hK, hw11, fun p hp => by
        rw [hO p hp, zos_s, h34]
        congr 1
        split <;> rfl⟩)
    · rw [zL_c0 (by omega)] at h34
      have hD : zD (ynd τ) (yo1 τ) (yo2 τ) μ := hC.2.1.1.fr hF (by decide)
      have hE : zEv 11 3 12 13 14 (yne τ) (yek τ) (yeh τ) (yen τ) μ := hC.2.2.2.1.1.fr hF (by decide)
      have hP : zP40 (ynp τ) (ysr τ) (yst τ) (ybd τ) μ := zP40.of (hC.2.1.2.fr hF (by decide)) hw11
      refine zq_go zt_X8_weighOdds 7 [] 68 [(0, .ref 0), (1, .int (nI c)), (2, .int (nI h)), (3, .int (nI w)), (4, .long (zL ((zwt c w (yne τ)))))] [.int (μ.1 0 12), .int (nI w), .ref 11, .ref 40] μ rfl trivial ?_
      rw [hld]
      refine zq_call zt_X8_weighOdds [.ref 40, .ref 11, .int (nI w), .int (nI (yld τ))] [] (zs_try11x hl9 (show w < 2 ^ 31 by omega) hne hD hE hP hK) rfl rfl ?_
      rintro _ μ2 ⟨rfl, f2, hK2, s2, q2⟩
      have hQ : zQ40 (ynp τ) (yRt τ w) μ2 := q2
      have hz := zal_lt hQ.1 (yRt τ w) h
      refine zq_go zt_X8_weighOdds 4 [] 77 [(0, .ref 0), (1, .int (nI c)), (2, .int (nI h)), (3, .int (nI w)), (4, .long (zL ((zwt c w (yne τ)))))] [.int (nI h), .ref 40, .ref 0] μ2 rfl trivial ?_
      refine zq_call zt_X8_weighOdds [.ref 40, .int (nI h)] [.ref 0] (zs_aloneBehind40 hQ hh) rfl rfl ?_
      rintro _ _ ⟨rfl, rfl⟩
      refine zq_go zt_X8_weighOdds 1 [] 82 [(0, .ref 0), (1, .int (nI c)), (2, .int (nI h)), (3, .int (nI w)), (4, .long (zL ((zwt c w (yne τ)))))] [.long (zL ((zwt c w (yne τ)))), .int (nI (zal (ynp τ) (yRt τ w) h)), .ref 0] μ2 rfl trivial ?_
      refine zq_call zt_X8_weighOdds [.ref 0, .int (nI (zal (ynp τ) (yRt τ w) h)), .long (zL ((zwt c w (yne τ))))] [] (zs_addOdds (n := zal (ynp τ) (yRt τ w) h) (W := zwt c w (yne τ)) (by omega)) rfl rfl ?_
      rintro _ μ3 ⟨rfl, f3, a3⟩
      refine zq_go zt_X8_weighOdds 2 [] 27 [(0, .ref 0), (1, .int (nI c)), (2, .int (nI h)), (3, .int ((nI w) + (nI 1))), (4, .long (zL ((zwt c w (yne τ)))))] [] μ3 rfl trivial ?_
      rw [zn_add w 1]
      exact zq_drp [0, 1, 2, 3] _ rfl (ih (w + 1) μ3 (by omega) ⟨hF.tr ((f2.wk (by simp +contextual)).tr (f3.wk (by simp))), by unfold zK40; rw [f3.a (b := 46) (by decide), f3.a (b := 45) (by decide)]; exact hK2, by rw [f3.a (b := 40) (by decide), s2 11 (by decide) (by decide)]; exact hw11, fun p hp => by
        rw [a3 p hp, f2.l (b := 49) (by decide), hO p hp, zos_s]
        unfold zal
        rw [zm_tb]
        by_cases t : zbi (ynp τ) (yRt τ w) h p = true ∧ p < ynp τ
        · rw [if_pos t, if_pos (by rw [decide_eq_true t.2, t.1]; rfl), zL_add]
        · rw [if_neg t, if_neg (fun x => t (by rw [Bool.and_eq_true] at x; exact ⟨x.2, of_decide_eq_true x.1⟩)), Nat.add_zero]⟩)
set_option maxRecDepth 100000 in
set_option maxHeartbeats 400000 in
theorem zs_weigh_r {τ : zTd} {S : zES} {H : zSH} {μ0 : zq_Me} (hC : zIc τ S H μ0) {c h : Nat} (hc : c ≤ 16) (hh : h < 24) : zq_Wp zn_X8_weighOdds 17 [(0, .ref 0), (1, .int (nI c)), (2, .int (nI h))] [] μ0 (fun r μ => r = none ∧ zIc τ S H μ ∧ zq_fr [0, 5, 40, 41, 42, 43, 44, 45, 46, 49] μ0 μ ∧ ∀ p, p < 8 → μ.2.1 49 p = zL (zod τ c h p)) := by
  refine zq_go zt_X8_weighOdds 3 [] 22 [(0, .ref 0), (1, .int (nI c)), (2, .int (nI h))] [.long 0, .ref 49] μ0 rfl trivial ?_
  refine zq_call zt_X8_weighOdds [.ref 49, .long 0] [] (zs_fill49 0 μ0) rfl rfl ?_
  rintro _ μ1 ⟨rfl, f1, a1⟩
  refine zq_go zt_X8_weighOdds 2 [] 27 [(0, .ref 0), (1, .int (nI c)), (2, .int (nI h)), (3, .int (nI 0))] [] μ1 rfl trivial ?_
  exact zs_weigh_l hC hc hh (2 ^ yne τ) 0 μ1 (by omega) ⟨f1.wk (by simp), by unfold zK40; rw [f1.a (b := 46) (by decide), f1.a (b := 45) (by decide)]; exact hC.2.2.2.2.2.1.2, by rw [f1.a (b := 40) (by decide)]; exact hC.2.2.2.2.2.1.1, fun p hp => a1 p hp⟩
set_option maxRecDepth 100000 in
set_option maxHeartbeats 400000 in
theorem zs_weighOdds {τ : zTd} {S : zES} {H : zSH} {μ0 : zq_Me} (hC : zIc τ S H μ0) {c h : Nat} (hc : c ≤ 16) (hh : h < 24) : zq_Wp zn_X8_weighOdds 0 [(0, .ref 0), (1, .int (nI c)), (2, .int (nI h))] [] μ0 (fun r μ => r = none ∧ zIc τ S H μ ∧ zq_fr [0, 5, 40, 41, 42, 43, 44, 45, 46, 49] μ0 μ ∧ ∀ p, p < 8 → μ.2.1 49 p = zL (zod τ c h p)) := by
  refine zq_go zt_X8_weighOdds 4 [] (if ¬ (μ0.1 0 15) = (nI c) then 17 else 8) [(0, .ref 0), (1, .int (nI c)), (2, .int (nI h))] [] μ0 rfl trivial ?_
  refine zq_ite (fun h1 => ?_) (fun h1 => ?_)
  · exact zs_weigh_r hC hc hh
  · refine zq_go zt_X8_weighOdds 4 [] (if ¬ (μ0.1 0 16) = (nI h) then 17 else 16) [(0, .ref 0), (1, .int (nI c)), (2, .int (nI h))] [] μ0 rfl trivial ?_
    refine zq_ite (fun h4 => ?_) (fun h4 => ?_)
    · exact zs_weigh_r hC hc hh
    · have e1 := Classical.not_not.mp h1
      have e2 := Classical.not_not.mp h4
      have hO : ∀ p, p < 8 → μ0.2.1 49 p = zL (zod τ c h p) := by
        rcases hC.2.2.2.2.2.2.1 with q | ⟨c9, h9, l1, l2, q1, q2, q3⟩
        · rw [e2] at q; exact absurd q (zn_neg1 (by omega))
        · rw [e1, zn_eq (by omega) (by omega)] at q1
          rw [e2, zn_eq (by omega) (by omega)] at q2
          subst q1 q2
          exact q3
      exact zq_retn zt_X8_weighOdds rfl rfl (⟨rfl, hC, zq_fr.rf, hO⟩)
set_option maxRecDepth 100000 in
set_option maxHeartbeats 400000 in
theorem zs_halve {s m w : Nat} {μ : zq_Me} (hm : m ≤ 32) (lw : w ≤ 1) : ∀ (i a : Nat), i ≤ m → a < 2 ^ 62 → s = a * 2 ^ (m - i) → Nat.gcd s (2 ^ m) = 2 ^ (m - i) * Nat.gcd a (2 ^ i) → zq_Wp zn_X8_chance 87 [(4, .int (nI w)), (6, .long (zL a)), (8, .int (nI i)), (9, .int (nI i))] [] μ (fun r μ1 => r = some (.long (zL (yCh s m w))) ∧ μ = μ1) := by
  intro i
  induction i with
  | zero =>
    intro a hi ha hs hq
    have g1 : Nat.gcd a (2 ^ 0) = 1 := Nat.gcd_one_right a
    refine zq_go zt_X8_chance 2 [] (if (nI 0) ≤ 0 then 116 else 92) [(4, .int (nI w)), (6, .long (zL a)), (8, .int (nI 0)), (9, .int (nI 0))] [] μ rfl trivial ?_
    rw [if_pos (by decide)]
    have hg : Nat.gcd s (2 ^ m) = 2 ^ (m - (0)) := by rw [hq, g1, Nat.mul_one]
    have hp0 : 0 < 2 ^ (m - (0)) := Nat.two_pow_pos _
    have e2 : 2 ^ m = 2 ^ (0) * 2 ^ (m - (0)) := by rw [← Nat.pow_add]; congr 1; omega
    refine zq_go zt_X8_chance 2 [] (if ¬ (nI w) = 0 then 126 else 121) [(4, .int (nI w)), (6, .long (zL a)), (8, .int (nI 0)), (9, .int (nI 0))] [] μ rfl trivial ?_
    refine zq_ite (fun h11 => ?_) (fun h11 => ?_)
    · rw [show (0 : Int32) = nI 0 from rfl, zn_eq (by omega) (by omega)] at h11
      have e0 : yCh s m w = 2 ^ (0) := by
        unfold yCh
        rw [if_neg (by omega), hg]
        conv => lhs; rw [e2]
        exact Nat.mul_div_cancel (2 ^ (0)) hp0
      rw [e0]
      refine zq_go zt_X8_chance 3 [] 130 [(4, .int (nI w)), (6, .long (zL a)), (8, .int (nI 0)), (9, .int (nI 0))] [.long (1 <<< ((nI 0).toInt64 &&& 63))] μ rfl trivial ?_
      rw [zL_1shl (by omega)]
      exact zq_retn zt_X8_chance rfl rfl (⟨rfl, rfl⟩)
    · rw [show (0 : Int32) = nI 0 from rfl, zn_eq (by omega) (by omega)] at h11
      have e0 : yCh s m w = a := by
        unfold yCh
        rw [if_pos (by omega), hg]
        conv => lhs; rw [hs]
        exact Nat.mul_div_cancel a hp0
      rw [e0]
      refine zq_go zt_X8_chance 2 [] 130 [(4, .int (nI w)), (6, .long (zL a)), (8, .int (nI 0)), (9, .int (nI 0))] [.long (zL a)] μ rfl trivial ?_
      exact zq_retn zt_X8_chance rfl rfl (⟨rfl, rfl⟩)
  | succ i ih =>
    intro a hi ha hs hq
    refine zq_go zt_X8_chance 2 [] (if (nI (i + 1)) ≤ 0 then 116 else 92) [(4, .int (nI w)), (6, .long (zL a)), (8, .int (nI (i + 1))), (9, .int (nI (i + 1)))] [] μ rfl trivial ?_
    rw [if_neg (by rw [show (0 : Int32) = nI 0 from rfl, zn_le (by omega) (by omega)]; omega)]
    refine zq_go zt_X8_chance 6 [] (if ¬ (lg_cmp ((zL a) &&& 1) 0) = 0 then 116 else 101) [(4, .int (nI w)), (6, .long (zL a)), (8, .int (nI (i + 1))), (9, .int (nI (i + 1)))] [] μ rfl trivial ?_
    refine zq_ite (fun h36 => ?_) (fun h36 => ?_)
    · rw [zL_and1, zL_c0 (by omega)] at h36
      have g1 : Nat.gcd a (2 ^ (i + 1)) = 1 := ygo (by omega) (i + 1)
      have hg : Nat.gcd s (2 ^ m) = 2 ^ (m - (i + 1)) := by rw [hq, g1, Nat.mul_one]
      have hp0 : 0 < 2 ^ (m - (i + 1)) := Nat.two_pow_pos _
      have e2 : 2 ^ m = 2 ^ (i + 1) * 2 ^ (m - (i + 1)) := by rw [← Nat.pow_add]; congr 1; omega
      refine zq_go zt_X8_chance 2 [] (if ¬ (nI w) = 0 then 126 else 121) [(4, .int (nI w)), (6, .long (zL a)), (8, .int (nI (i + 1))), (9, .int (nI (i + 1)))] [] μ rfl trivial ?_
      refine zq_ite (fun h43 => ?_) (fun h43 => ?_)
      · rw [show (0 : Int32) = nI 0 from rfl, zn_eq (by omega) (by omega)] at h43
        have e0 : yCh s m w = 2 ^ (i + 1) := by
          unfold yCh
          rw [if_neg (by omega), hg]
          conv => lhs; rw [e2]
          exact Nat.mul_div_cancel (2 ^ (i + 1)) hp0
        rw [e0]
        refine zq_go zt_X8_chance 3 [] 130 [(4, .int (nI w)), (6, .long (zL a)), (8, .int (nI (i + 1))), (9, .int (nI (i + 1)))] [.long (1 <<< ((nI (i + 1)).toInt64 &&& 63))] μ rfl trivial ?_
        rw [zL_1shl (by omega)]
        exact zq_retn zt_X8_chance rfl rfl (⟨rfl, rfl⟩)
      · rw [show (0 : Int32) = nI 0 from rfl, zn_eq (by omega) (by omega)] at h43
        have e0 : yCh s m w = a := by
          unfold yCh
          rw [if_pos (by omega), hg]
          conv => lhs; rw [hs]
          exact Nat.mul_div_cancel a hp0
        rw [e0]
        refine zq_go zt_X8_chance 2 [] 130 [(4, .int (nI w)), (6, .long (zL a)), (8, .int (nI (i + 1))), (9, .int (nI (i + 1)))] [.long (zL a)] μ rfl trivial ?_
        exact zq_retn zt_X8_chance rfl rfl (⟨rfl, rfl⟩)
    · rw [zL_and1, zL_c0 (by omega)] at h36
      have h2 := Classical.not_not.mp h36
      refine zq_go zt_X8_chance 7 [] 87 [(4, .int (nI w)), (6, .long ((zL a) >>> ((nI 1).toInt64 &&& 63))), (8, .int ((nI (i + 1)) + (-1))), (9, .int ((nI (i + 1)) + (-1)))] [] μ rfl trivial ?_
      rw [zL_shr1 (by omega), show nI (i + 1) + (-1) = nI i from zdn_dec (i + 1)]
      have e3 : 2 ^ (m - i) = 2 * 2 ^ (m - (i + 1)) := by rw [show m - i = (m - (i + 1)) + 1 by omega, Nat.pow_succ]; omega
      refine ih (a / 2) (by omega) (by omega) ?_ ?_
      · conv => lhs; rw [hs]
        rw [e3, ← Nat.mul_assoc]
        congr 1
        omega
      · rw [hq, yge h2, e3, ← Nat.mul_assoc]
        congr 1
        omega
set_option maxRecDepth 100000 in
set_option maxHeartbeats 400000 in
theorem zs_chance {τ : zTd} {S : zES} {H : zSH} {μ0 : zq_Me} {c p h w : Nat} (hc : c ≤ 16) (lp : p < ynp τ) (lh : h ≤ 23) (lw : w ≤ 1) (hC : zIc τ S H μ0) : zq_Wp zn_X8_chance 0 [(0, .ref 0), (1, .int (nI c)), (2, .int (nI p)), (3, .int (nI h)), (4, .int (nI w))] [] μ0 (zRc (.long (zL (yCh (zod τ c h p) (4 * yne τ) w))) τ S H μ0) := by
  have hnp := hC.2.1.2.1
  have hne := hC.2.2.2.1.2
  refine zq_go zt_X8_chance 3 [] 4 [(0, .ref 0), (1, .int (nI c)), (2, .int (nI p)), (3, .int (nI h)), (4, .int (nI w))] [.int (nI 16), .int (nI 0), .int (nI c)] μ0 rfl trivial ?_
  refine zq_call zt_X8_chance [.int (nI c), .int (nI 0), .int (nI 16)] [] (zs_within (nI c) (nI 0) (nI 16) μ0) rfl rfl ?_
  rintro _ _ ⟨rfl, rfl⟩
  refine zq_go zt_X8_chance 1 [] (if (zb (0 ≤ nI c ∧ nI c ≤ nI 16)) = 0 then 29 else 10) [(0, .ref 0), (1, .int (nI c)), (2, .int (nI p)), (3, .int (nI h)), (4, .int (nI w))] [] μ0 rfl trivial ?_
  rw [if_neg (zb_n (yin (by omega) (by decide)))]
  refine zq_go zt_X8_chance 2 [] 12 [(0, .ref 0), (1, .int (nI c)), (2, .int (nI p)), (3, .int (nI h)), (4, .int (nI w))] [.int (nI p), .ref 0] μ0 rfl trivial ?_
  refine zq_call zt_X8_chance [.ref 0, .int (nI p)] [] (zs_isPerson (nI p) hC) rfl rfl ?_
  rintro _ _ ⟨rfl, rfl⟩
  refine zq_go zt_X8_chance 1 [] (if (zb (0 ≤ nI p ∧ nI p ≤ nI (ynp τ) - nI 1)) = 0 then 29 else 18) [(0, .ref 0), (1, .int (nI c)), (2, .int (nI p)), (3, .int (nI h)), (4, .int (nI w))] [] μ0 rfl trivial ?_
  rw [if_neg (zb_n (yip (by omega) (by omega)))]
  refine zq_go zt_X8_chance 1 [] 19 [(0, .ref 0), (1, .int (nI c)), (2, .int (nI p)), (3, .int (nI h)), (4, .int (nI w))] [.int (nI h)] μ0 rfl trivial ?_
  refine zq_call zt_X8_chance [.int (nI h)] [] (zs_isHour (nI h) μ0) rfl rfl ?_
  rintro _ _ ⟨rfl, rfl⟩
  refine zq_go zt_X8_chance 1 [] (if (zb (0 ≤ nI h ∧ nI h ≤ nI 23)) = 0 then 29 else 25) [(0, .ref 0), (1, .int (nI c)), (2, .int (nI p)), (3, .int (nI h)), (4, .int (nI w))] [] μ0 rfl trivial ?_
  rw [if_neg (zb_n (yin (by omega) (by decide)))]
  refine zq_go zt_X8_chance 2 [] 30 [(0, .ref 0), (1, .int (nI c)), (2, .int (nI p)), (3, .int (nI h)), (4, .int (nI w))] [.int (nI 1)] μ0 rfl trivial ?_
  refine zq_go zt_X8_chance 3 [] (if (nI 1) = 0 then 47 else 37) [(0, .ref 0), (1, .int (nI c)), (2, .int (nI p)), (3, .int (nI h)), (4, .int (nI w)), (5, .int (nI 1))] [] μ0 rfl trivial ?_
  rw [if_neg (by decide)]
  refine zq_go zt_X8_chance 3 [] 41 [(0, .ref 0), (1, .int (nI c)), (2, .int (nI p)), (3, .int (nI h)), (4, .int (nI w)), (5, .int (nI 1))] [.int (nI 1), .int (nI 0), .int (nI w)] μ0 rfl trivial ?_
  refine zq_call zt_X8_chance [.int (nI w), .int (nI 0), .int (nI 1)] [] (zs_within (nI w) (nI 0) (nI 1) μ0) rfl rfl ?_
  rintro _ _ ⟨rfl, rfl⟩
  refine zq_go zt_X8_chance 1 [] (if ¬ (zb (0 ≤ (nI w) ∧ (nI w) ≤ nI 1)) = 0 then 51 else 47) [(0, .ref 0), (1, .int (nI c)), (2, .int (nI p)), (3, .int (nI h)), (4, .int (nI w)), (5, .int (nI 1))] [] μ0 rfl trivial ?_
  rw [if_pos (zb_n (yin (by omega) (by decide)))]
  refine zq_go zt_X8_chance 3 [] 54 [(0, .ref 0), (1, .int (nI c)), (2, .int (nI p)), (3, .int (nI h)), (4, .int (nI w)), (5, .int (nI 1))] [.int (nI h), .int (nI c), .ref 0] μ0 rfl trivial ?_
  refine zq_call zt_X8_chance [.ref 0, .int (nI c), .int (nI h)] [] (zs_weighOdds hC hc (show h < 24 by omega)) rfl rfl ?_
  rintro _ μ1 ⟨rfl, hI, f1, hO⟩
  have h11 : μ1.1 11 3 = nI (yne τ) := hI.2.2.2.1.1.2.1
  refine zq_go zt_X8_chance 17 [vp_in (nI p) 8] 87 [(0, .ref 0), (1, .int (nI c)), (2, .int (nI p)), (3, .int (nI h)), (4, .int (nI w)), (5, .int (nI 1)), (6, .long (μ1.2.1 49 ((nI p).toNatClampNeg))), (8, .int ((nI 4) * (μ1.1 11 3))), (9, .int ((nI 4) * (μ1.1 11 3)))] [] μ1 rfl ⟨zn_in (k := p) rfl (by omega) (by decide), trivial⟩ ?_
  rw [zn_cl (n := p) (by omega), hO p (by omega), h11, zn_mul 4 (yne τ)]
  have hpw : 2 ^ yne τ ≤ 2 ^ yne τ := Nat.le_refl _
  refine zq_drp [4, 6, 8, 9] _ rfl (zq_Wp_mono (zs_halve (s := zod τ c h p) (m := 4 * yne τ) (by omega) lw (4 * yne τ) (zod τ c h p) (Nat.le_refl _) (zos_lt hc hne h p hpw) (by rw [Nat.sub_self]; exact (Nat.mul_one _).symm) (by rw [Nat.sub_self]; exact (Nat.one_mul _).symm)) ?_)
  rintro _ _ ⟨rfl, rfl⟩
  exact ⟨rfl, hI, f1.wk (by simp +contextual [zSC])⟩
set_option maxRecDepth 100000 in
set_option maxHeartbeats 400000 in
theorem zs_chance_b {τ : zTd} {S : zES} {H : zSH} {μ0 : zq_Me} (v1 v2 v3 v4 : Int32) (hg : ¬ ((0 ≤ v1 ∧ v1 ≤ nI 16) ∧ (0 ≤ v2 ∧ v2 ≤ nI (ynp τ) - nI 1) ∧ (0 ≤ v3 ∧ v3 ≤ nI 23) ∧ (0 ≤ v4 ∧ v4 ≤ nI 1))) (hC : zIc τ S H μ0) : zq_Wp zn_X8_chance 0 [(0, .ref 0), (1, .int v1), (2, .int v2), (3, .int v3), (4, .int v4)] [] μ0 (zRc (.long (-9223372036854775806)) τ S H μ0) := by
  refine zq_go zt_X8_chance 3 [] 4 [(0, .ref 0), (1, .int v1), (2, .int v2), (3, .int v3), (4, .int v4)] [.int (nI 16), .int (nI 0), .int v1] μ0 rfl trivial ?_
  refine zq_call zt_X8_chance [.int v1, .int (nI 0), .int (nI 16)] [] (zs_within v1 (nI 0) (nI 16) μ0) rfl rfl ?_
  rintro _ _ ⟨rfl, rfl⟩
  refine zq_go zt_X8_chance 1 [] (if (zb (0 ≤ v1 ∧ v1 ≤ nI 16)) = 0 then 29 else 10) [(0, .ref 0), (1, .int v1), (2, .int v2), (3, .int v3), (4, .int v4)] [] μ0 rfl trivial ?_
  refine zq_ite (fun h4 => ?_) (fun h4 => ?_)
  · refine zq_go zt_X8_chance 4 [] (if (nI 0) = 0 then 47 else 37) [(0, .ref 0), (1, .int v1), (2, .int v2), (3, .int v3), (4, .int v4), (5, .int (nI 0))] [] μ0 rfl trivial ?_
    rw [if_pos (by decide)]
    refine zq_go zt_X8_chance 1 [] 50 [(0, .ref 0), (1, .int v1), (2, .int v2), (3, .int v3), (4, .int v4), (5, .int (nI 0))] [.long (-9223372036854775806)] μ0 rfl trivial ?_
    exact zq_retn zt_X8_chance rfl rfl (⟨rfl, hC, zq_fr.rf⟩)
  · have g0 := zb_p h4
    refine zq_go zt_X8_chance 2 [] 12 [(0, .ref 0), (1, .int v1), (2, .int v2), (3, .int v3), (4, .int v4)] [.int v2, .ref 0] μ0 rfl trivial ?_
    refine zq_call zt_X8_chance [.ref 0, .int v2] [] (zs_isPerson v2 hC) rfl rfl ?_
    rintro _ _ ⟨rfl, rfl⟩
    refine zq_go zt_X8_chance 1 [] (if (zb (0 ≤ v2 ∧ v2 ≤ nI (ynp τ) - nI 1)) = 0 then 29 else 18) [(0, .ref 0), (1, .int v1), (2, .int v2), (3, .int v3), (4, .int v4)] [] μ0 rfl trivial ?_
    refine zq_ite (fun h14 => ?_) (fun h14 => ?_)
    · refine zq_go zt_X8_chance 4 [] (if (nI 0) = 0 then 47 else 37) [(0, .ref 0), (1, .int v1), (2, .int v2), (3, .int v3), (4, .int v4), (5, .int (nI 0))] [] μ0 rfl trivial ?_
      rw [if_pos (by decide)]
      refine zq_go zt_X8_chance 1 [] 50 [(0, .ref 0), (1, .int v1), (2, .int v2), (3, .int v3), (4, .int v4), (5, .int (nI 0))] [.long (-9223372036854775806)] μ0 rfl trivial ?_
      exact zq_retn zt_X8_chance rfl rfl (⟨rfl, hC, zq_fr.rf⟩)
    · have g1 := zb_p h14
      refine zq_go zt_X8_chance 1 [] 19 [(0, .ref 0), (1, .int v1), (2, .int v2), (3, .int v3), (4, .int v4)] [.int v3] μ0 rfl trivial ?_
      refine zq_call zt_X8_chance [.int v3] [] (zs_isHour v3 μ0) rfl rfl ?_
      rintro _ _ ⟨rfl, rfl⟩
      refine zq_go zt_X8_chance 1 [] (if (zb (0 ≤ v3 ∧ v3 ≤ nI 23)) = 0 then 29 else 25) [(0, .ref 0), (1, .int v1), (2, .int v2), (3, .int v3), (4, .int v4)] [] μ0 rfl trivial ?_
      refine zq_ite (fun h24 => ?_) (fun h24 => ?_)
      · refine zq_go zt_X8_chance 4 [] (if (nI 0) = 0 then 47 else 37) [(0, .ref 0), (1, .int v1), (2, .int v2), (3, .int v3), (4, .int v4), (5, .int (nI 0))] [] μ0 rfl trivial ?_
        rw [if_pos (by decide)]
        refine zq_go zt_X8_chance 1 [] 50 [(0, .ref 0), (1, .int v1), (2, .int v2), (3, .int v3), (4, .int v4), (5, .int (nI 0))] [.long (-9223372036854775806)] μ0 rfl trivial ?_
        exact zq_retn zt_X8_chance rfl rfl (⟨rfl, hC, zq_fr.rf⟩)
      · have g2 := zb_p h24
        refine zq_go zt_X8_chance 2 [] 30 [(0, .ref 0), (1, .int v1), (2, .int v2), (3, .int v3), (4, .int v4)] [.int (nI 1)] μ0 rfl trivial ?_
        refine zq_go zt_X8_chance 3 [] (if (nI 1) = 0 then 47 else 37) [(0, .ref 0), (1, .int v1), (2, .int v2), (3, .int v3), (4, .int v4), (5, .int (nI 1))] [] μ0 rfl trivial ?_
        rw [if_neg (by decide)]
        refine zq_go zt_X8_chance 3 [] 41 [(0, .ref 0), (1, .int v1), (2, .int v2), (3, .int v3), (4, .int v4), (5, .int (nI 1))] [.int (nI 1), .int (nI 0), .int v4] μ0 rfl trivial ?_
        refine zq_call zt_X8_chance [.int v4, .int (nI 0), .int (nI 1)] [] (zs_within v4 (nI 0) (nI 1) μ0) rfl rfl ?_
        rintro _ _ ⟨rfl, rfl⟩
        refine zq_go zt_X8_chance 1 [] (if ¬ (zb (0 ≤ v4 ∧ v4 ≤ nI 1)) = 0 then 51 else 47) [(0, .ref 0), (1, .int v1), (2, .int v2), (3, .int v3), (4, .int v4), (5, .int (nI 1))] [] μ0 rfl trivial ?_
        refine zq_ite (fun h37 => ?_) (fun h37 => ?_)
        · exact absurd ⟨g0, g1, g2, zb_p h37⟩ hg
        · refine zq_go zt_X8_chance 1 [] 50 [(0, .ref 0), (1, .int v1), (2, .int v2), (3, .int v3), (4, .int v4), (5, .int (nI 1))] [.long (-9223372036854775806)] μ0 rfl trivial ?_
          exact zq_retn zt_X8_chance rfl rfl (⟨rfl, hC, zq_fr.rf⟩)
set_option maxRecDepth 100000 in
set_option maxHeartbeats 400000 in
theorem zs_lowest_l {a b w : Nat} (ha : a < 2 ^ 62) (hb0 : 0 < b) (hb : b < 2 ^ 62) (lw : w ≤ 1) {μ : zq_Me} : ∀ (y x : Nat), x < 2 ^ 62 → y < 2 ^ 62 → Nat.gcd x y = (Nat.gcd a b) → zq_Wp zn_X9_lowest 6 [(0, .long (zL a)), (2, .long (zL b)), (4, .int (nI w)), (5, .long (zL x)), (7, .long (zL y))] [] μ (fun r μ1 => r = some (.long (zL (if w = 0 then a / (Nat.gcd a b) else b / (Nat.gcd a b)))) ∧ μ = μ1) := by
  intro y
  induction y using Nat.strongRecOn with
  | _ y ih =>
    intro x hx hy hq
    refine zq_go zt_X9_lowest 4 [] (if (lg_cmp (zL y) 0) = 0 then 31 else 13) [(0, .long (zL a)), (2, .long (zL b)), (4, .int (nI w)), (5, .long (zL x)), (7, .long (zL y))] [] μ rfl trivial ?_
    refine zq_ite (fun h5 => ?_) (fun h5 => ?_)
    · rw [zL_c0 (by omega)] at h5
      rw [h5, Nat.gcd_zero_right] at hq
      rw [hq]
      have hg0 : 0 < (Nat.gcd a b) := Nat.gcd_pos_of_pos_right a hb0
      have hgl : (Nat.gcd a b) ≤ b := Nat.gcd_le_right a hb0
      have hgn : ¬ zL (Nat.gcd a b) = 0 := fun q => by
        rw [show (0 : Int64) = zL 0 from rfl, zL_eq (by omega) (by decide)] at q
        omega
      refine zq_go zt_X9_lowest 2 [] (if ¬ (nI w) = 0 then 43 else 36) [(0, .long (zL a)), (2, .long (zL b)), (4, .int (nI w)), (5, .long (zL ((Nat.gcd a b)))), (7, .long (zL y))] [] μ rfl trivial ?_
      refine zq_ite (fun h15 => ?_) (fun h15 => ?_)
      · rw [show (0 : Int32) = nI 0 from rfl, zn_eq (by omega) (by omega)] at h15
        have e0 : (if w = 0 then a / (Nat.gcd a b) else b / (Nat.gcd a b)) = b / (Nat.gcd a b) := if_neg (by omega)
        rw [e0]
        refine zq_go zt_X9_lowest 3 [¬ (zL ((Nat.gcd a b))) = 0] 47 [(0, .long (zL a)), (2, .long (zL b)), (4, .int (nI w)), (5, .long (zL ((Nat.gcd a b)))), (7, .long (zL y))] [.long ((zL b) / (zL ((Nat.gcd a b))))] μ rfl ⟨hgn, trivial⟩ ?_
        rw [show zL b / zL (Nat.gcd a b) = zL (b / (Nat.gcd a b)) from pk_lDiv (by omega) hg0 (by omega)]
        exact zq_retn zt_X9_lowest rfl rfl (⟨rfl, rfl⟩)
      · rw [show (0 : Int32) = nI 0 from rfl, zn_eq (by omega) (by omega)] at h15
        have e0 : (if w = 0 then a / (Nat.gcd a b) else b / (Nat.gcd a b)) = a / (Nat.gcd a b) := if_pos (by omega)
        rw [e0]
        refine zq_go zt_X9_lowest 4 [¬ (zL ((Nat.gcd a b))) = 0] 47 [(0, .long (zL a)), (2, .long (zL b)), (4, .int (nI w)), (5, .long (zL ((Nat.gcd a b)))), (7, .long (zL y))] [.long ((zL a) / (zL ((Nat.gcd a b))))] μ rfl ⟨hgn, trivial⟩ ?_
        rw [show zL a / zL (Nat.gcd a b) = zL (a / (Nat.gcd a b)) from pk_lDiv (by omega) hg0 (by omega)]
        exact zq_retn zt_X9_lowest rfl rfl (⟨rfl, rfl⟩)
    · rw [zL_c0 (by omega)] at h5
      have hyn : ¬ zL y = 0 := fun q => by
        rw [show (0 : Int64) = zL 0 from rfl, zL_eq (by omega) (by decide)] at q
        omega
      have hlt : x % y < y := Nat.mod_lt _ (by omega)
      refine zq_go zt_X9_lowest 9 [¬ (zL y) = 0] 6 [(0, .long (zL a)), (2, .long (zL b)), (4, .int (nI w)), (5, .long (zL y)), (7, .long ((zL x) - (zL x) / (zL y) * (zL y))), (9, .long ((zL x) - (zL x) / (zL y) * (zL y)))] [] μ rfl ⟨hyn, trivial⟩ ?_
      rw [show zL x - zL x / zL y * zL y = zL (x % y) from pk_lRem (by omega) (by omega) (by omega)]
      exact zq_drp [0, 2, 4, 5, 7] _ rfl (ih (x % y) hlt y hy (by omega) (by rw [← hq, Nat.gcd_comm x y, Nat.gcd_rec y x, Nat.gcd_comm]))
set_option maxRecDepth 100000 in
set_option maxHeartbeats 400000 in
theorem zs_lowest {a b w : Nat} (ha : a < 2 ^ 62) (hb0 : 0 < b) (hb : b < 2 ^ 62) (lw : w ≤ 1) {μ : zq_Me} : zq_Wp zn_X9_lowest 0 [(0, .long (zL a)), (2, .long (zL b)), (4, .int (nI w))] [] μ (fun r μ1 => r = some (.long (zL (if w = 0 then a / (Nat.gcd a b) else b / (Nat.gcd a b)))) ∧ μ = μ1) := by
  refine zq_go zt_X9_lowest 4 [] 6 [(0, .long (zL a)), (2, .long (zL b)), (4, .int (nI w)), (5, .long (zL a)), (7, .long (zL b))] [] μ rfl trivial ?_
  exact zs_lowest_l ha hb0 hb lw b a ha hb rfl
set_option maxRecDepth 100000 in
set_option maxHeartbeats 400000 in
theorem zs_chm_e {Q : zq_Post} {τ : zTd} {μ : zq_Me} (h11 : μ.1 50 10 = nI (yne τ)) (hne : yne τ ≤ 8) {c p h w u : Nat} {sm : Int64} (hc : c ≤ 16) (hu : u < 2 ^ 31) (kk : zq_Wp zn_X9_chanceOf 67 [(0, .ref 50), (1, .int (nI c)), (2, .int (nI p)), (3, .int (nI h)), (4, .int (nI w)), (5, .long sm), (7, .int (nI u)), (8, .long (zL ((zwt c u (yne τ)))))] [] μ Q) : ∀ (j e : Nat), e + j = yne τ → zq_Wp zn_X9_chanceOf 27 [(0, .ref 50), (1, .int (nI c)), (2, .int (nI p)), (3, .int (nI h)), (4, .int (nI w)), (5, .long sm), (7, .int (nI u)), (8, .long (zL ((zwt c u e)))), (10, .int (nI e))] [] μ Q := by
  intro j
  induction j with
  | zero =>
    intro e hij
    obtain rfl : e = yne τ := by omega
    refine zq_go zt_X9_chanceOf 4 [] (if (μ.1 50 10) ≤ (nI (yne τ)) then 67 else 36) [(0, .ref 50), (1, .int (nI c)), (2, .int (nI p)), (3, .int (nI h)), (4, .int (nI w)), (5, .long sm), (7, .int (nI u)), (8, .long (zL ((zwt c u (yne τ))))), (10, .int (nI (yne τ)))] [] μ rfl trivial ?_
    rw [h11]
    rw [if_pos (by rw [zn_le (by omega) (by omega)]; omega)]
    exact zq_drp [0, 1, 2, 3, 4, 5, 7, 8] _ rfl kk
  | succ j ih =>
    intro e hij
    have h9 := ih (e + 1) (by omega)
    rw [zwt_s] at h9
    refine zq_go zt_X9_chanceOf 4 [] (if (μ.1 50 10) ≤ (nI e) then 67 else 36) [(0, .ref 50), (1, .int (nI c)), (2, .int (nI p)), (3, .int (nI h)), (4, .int (nI w)), (5, .long sm), (7, .int (nI u)), (8, .long (zL ((zwt c u e)))), (10, .int (nI e))] [] μ rfl trivial ?_
    rw [h11]
    rw [if_neg (by rw [zn_le (by omega) (by omega)]; omega)]
    refine zq_go zt_X9_chanceOf 3 [] 42 [(0, .ref 50), (1, .int (nI c)), (2, .int (nI p)), (3, .int (nI h)), (4, .int (nI w)), (5, .long sm), (7, .int (nI u)), (8, .long (zL ((zwt c u e)))), (10, .int (nI e))] [.int (nI e), .int (nI u), .long (zL ((zwt c u e)))] μ rfl trivial ?_
    refine zq_call zt_X9_chanceOf [.int (nI u), .int (nI e)] [.long (zL ((zwt c u e)))] (zs_isIn u e hu (by omega) μ) rfl rfl ?_
    rintro _ _ ⟨rfl, rfl⟩
    refine zq_go zt_X9_chanceOf 1 [] (if (zB (u.testBit e)) = 0 then 56 else 48) [(0, .ref 50), (1, .int (nI c)), (2, .int (nI p)), (3, .int (nI h)), (4, .int (nI w)), (5, .long sm), (7, .int (nI u)), (8, .long (zL ((zwt c u e)))), (10, .int (nI e))] [.long (zL ((zwt c u e)))] μ rfl trivial ?_
    refine zq_ite (fun h20 => ?_) (fun h20 => ?_)
    · have h7 := zB_f h20
      rw [h7, if_neg (by decide)] at h9
      refine zq_go zt_X9_chanceOf 6 [] 27 [(0, .ref 50), (1, .int (nI c)), (2, .int (nI p)), (3, .int (nI h)), (4, .int (nI w)), (5, .long sm), (7, .int (nI u)), (8, .long ((zL ((zwt c u e))) * ((nI c).toInt64))), (10, .int ((nI e) + (nI 1)))] [] μ rfl trivial ?_
      rw [zn_add e 1]
      rw [zL_i (by omega), zL_mul]
      exact h9
    · have h7 := zB_t h20
      rw [h7, if_pos rfl] at h9
      refine zq_go zt_X9_chanceOf 5 [] 58 [(0, .ref 50), (1, .int (nI c)), (2, .int (nI p)), (3, .int (nI h)), (4, .int (nI w)), (5, .long sm), (7, .int (nI u)), (8, .long (zL ((zwt c u e)))), (10, .int (nI e))] [.long (((nI 16) - (nI c)).toInt64), .long (zL ((zwt c u e)))] μ rfl trivial ?_
      rw [zn_sub (show c ≤ 16 by omega)]
      refine zq_go zt_X9_chanceOf 4 [] 27 [(0, .ref 50), (1, .int (nI c)), (2, .int (nI p)), (3, .int (nI h)), (4, .int (nI w)), (5, .long sm), (7, .int (nI u)), (8, .long ((zL ((zwt c u e))) * ((nI (16 - c)).toInt64))), (10, .int ((nI e) + (nI 1)))] [] μ rfl trivial ?_
      rw [zn_add e 1]
      rw [zL_i (by omega), zL_mul]
      exact h9
set_option maxRecDepth 100000 in
set_option maxHeartbeats 400000 in
theorem zs_chm_u {τ : zTd} {S : zES} {H : zSH} {μ0 : zq_Me} {c p h w : Nat} (hc : c ≤ 16) (lp : p < ynp τ) (hh : h < 24) (lw : w ≤ 1) : ∀ (j u : Nat) (μ : zq_Me), u + j = 2 ^ yne τ → (zIm τ S H μ ∧ zq_fr zSM μ0 μ ∧ ∃ w0, zNr τ (ysr τ) (ybd τ) (yld τ) τ.2.2.2 w0 μ) → zq_Wp zn_X9_chanceOf 10 [(0, .ref 50), (1, .int (nI c)), (2, .int (nI p)), (3, .int (nI h)), (4, .int (nI w)), (5, .long (zL ((zos τ c h p u)))), (7, .int (nI u))] [] μ (fun r μ => r = some (.long (zL (yCh (zod τ c h p) (4 * yne τ) w))) ∧ zIm τ S H μ ∧ zq_fr zSM μ0 μ ∧ zDm (ynd τ) (yo1 τ) (yo2 τ) μ ∧ zPm (ynp τ) (ysr τ) (yst τ) (ybd τ) μ) := by
  intro j
  induction j with
  | zero =>
    rintro u μ hij ⟨hM, hF, w0, hN⟩
    obtain rfl : u = 2 ^ yne τ := by omega
    have hne := hM.2.2.1.2
    have hl9 := hM.2.1.2.2
    have h11 : μ.1 50 10 = nI (yne τ) := hM.2.2.1.1.2.1
    have hpw : 2 ^ yne τ ≤ 2 ^ 8 := Nat.pow_le_pow_right (by decide) hne
    refine zq_go zt_X9_chanceOf 6 [] (if ((nI 1) <<< ((μ.1 50 10) &&& 31)) ≤ (nI (2 ^ yne τ)) then 110 else 21) [(0, .ref 50), (1, .int (nI c)), (2, .int (nI p)), (3, .int (nI h)), (4, .int (nI w)), (5, .long (zL ((zod τ c h p)))), (7, .int (nI (2 ^ yne τ)))] [] μ rfl trivial ?_
    rw [h11]
    rw [if_pos (by rw [zn_1shl (by omega), zn_le (by omega) (by omega)]; exact Nat.le_refl _)]
    refine zq_go zt_X9_chanceOf 8 [] 122 [(0, .ref 50), (1, .int (nI c)), (2, .int (nI p)), (3, .int (nI h)), (4, .int (nI w)), (5, .long (zL ((zod τ c h p)))), (7, .int (nI (2 ^ yne τ)))] [.int (nI w), .long (1 <<< (((nI 4) * (μ.1 50 10)).toInt64 &&& 63)), .long (zL ((zod τ c h p)))] μ rfl trivial ?_
    rw [h11, zn_mul 4 (yne τ)]
    rw [zL_1shl (show 4 * yne τ < 63 by omega)]
    have hb2 : 2 ^ (4 * yne τ) < 2 ^ 62 := Nat.pow_lt_pow_right (by decide) (by omega)
    refine zq_call zt_X9_chanceOf [.long (zL ((zod τ c h p))), .long (zL ((2 ^ (4 * yne τ)))), .int (nI w)] [] (zs_lowest (a := zod τ c h p) (b := 2 ^ (4 * yne τ)) (zos_lt hc hne h p (Nat.le_refl _)) (Nat.two_pow_pos _) hb2 lw) rfl rfl ?_
    rintro _ _ ⟨rfl, rfl⟩
    exact zq_retn zt_X9_chanceOf rfl rfl (⟨rfl, hM, hF, hN.1, hN.2.1⟩)
  | succ j ih =>
    rintro u μ hij ⟨hM, hF, w0, hN⟩
    have hne := hM.2.2.1.2
    have hl9 := hM.2.1.2.2
    have h11 : μ.1 50 10 = nI (yne τ) := hM.2.2.1.1.2.1
    have hpw : 2 ^ yne τ ≤ 2 ^ 8 := Nat.pow_le_pow_right (by decide) hne
    have hW := zwt_le hc u (yne τ)
    have hW2 := z16 hne
    refine zq_go zt_X9_chanceOf 6 [] (if ((nI 1) <<< ((μ.1 50 10) &&& 31)) ≤ (nI u) then 110 else 21) [(0, .ref 50), (1, .int (nI c)), (2, .int (nI p)), (3, .int (nI h)), (4, .int (nI w)), (5, .long (zL ((zos τ c h p u)))), (7, .int (nI u))] [] μ rfl trivial ?_
    rw [h11]
    rw [if_neg (by rw [zn_1shl (by omega), zn_le (by omega) (by omega)]; omega)]
    refine zq_go zt_X9_chanceOf 4 [] 27 [(0, .ref 50), (1, .int (nI c)), (2, .int (nI p)), (3, .int (nI h)), (4, .int (nI w)), (5, .long (zL ((zos τ c h p u)))), (7, .int (nI u)), (8, .long 1), (10, .int (nI 0))] [] μ rfl trivial ?_
    refine zs_chm_e (τ := τ) h11 hne hc (show u < 2 ^ 31 by omega) ?_ (yne τ) 0 (by omega)
    refine zq_go zt_X9_chanceOf 4 [] (if (lg_cmp (zL ((zwt c u (yne τ)))) 0) ≤ 0 then 104 else 74) [(0, .ref 50), (1, .int (nI c)), (2, .int (nI p)), (3, .int (nI h)), (4, .int (nI w)), (5, .long (zL ((zos τ c h p u)))), (7, .int (nI u)), (8, .long (zL ((zwt c u (yne τ)))))] [] μ rfl trivial ?_
    refine zq_ite (fun h33 => ?_) (fun h33 => ?_)
    · rw [zL_cle (by omega)] at h33
      have e9 : zos τ c h p (u + 1) = zos τ c h p u := by
        rw [zos_s, h33]
        split <;> rfl
      refine zq_go zt_X9_chanceOf 2 [] 10 [(0, .ref 50), (1, .int (nI c)), (2, .int (nI p)), (3, .int (nI h)), (4, .int (nI w)), (5, .long (zL ((zos τ c h p u)))), (7, .int ((nI u) + (nI 1))), (8, .long (zL ((zwt c u (yne τ)))))] [] μ rfl trivial ?_
      rw [zn_add u 1]
      have h9 := ih (u + 1) μ (by omega) ⟨hM, hF, w0, hN⟩
      rw [e9] at h9
      exact zq_drp [0, 1, 2, 3, 4, 5, 7] _ rfl h9
    · rw [zL_cle (by omega)] at h33
      refine zq_go zt_X9_chanceOf 3 [] 80 [(0, .ref 50), (1, .int (nI c)), (2, .int (nI p)), (3, .int (nI h)), (4, .int (nI w)), (5, .long (zL ((zos τ c h p u)))), (7, .int (nI u)), (8, .long (zL ((zwt c u (yne τ)))))] [] (zq_u1 μ 50 19 (nI u)) rfl trivial ?_
      obtain ⟨μ1, hμ1⟩ : ∃ k9 : zq_Me, k9 = (zq_u1 μ 50 19 (nI u)) := ⟨_, rfl⟩
      rw [← hμ1]
      have f1 : zq_fr [50] μ μ1 := by rw [hμ1]; exact zq_fr.rf.u1 (by simp)
      have s1 : ∀ i, i ≠ 19 → μ1.1 50 i = μ.1 50 i := fun i hi => by rw [hμ1, zq_u1_o2 hi]
      have hM1 : zIm τ S H μ1 := hM.kp f1 (by decide) (fun i hi => s1 i (by simp at hi; omega))
      have hN1 : zNr τ (ysr τ) (ybd τ) (yld τ) τ.2.2.2 u μ1 := by
        obtain ⟨d, p, l, e9, w9⟩ := hN
        exact ⟨⟨d.1, by rw [s1 2 (by decide)]; exact d.2.1, by rw [f1.a (b := 53) (by decide)]; exact d.2.2.1, by rw [f1.a (b := 54) (by decide)]; exact d.2.2.2⟩, p.sl (s1 5 (by decide)) (f1.a (by decide)) (f1.a (by decide)) (f1.a (by decide)), by rw [s1 14 (by decide)]; exact l, e9.sl (s1 15 (by decide)) (f1.a (by decide)) (f1.a (by decide)) (f1.a (by decide)), by rw [hμ1, zq_u1_s]⟩
      refine zq_go zt_X9_chanceOf 1 [] 81 [(0, .ref 50), (1, .int (nI c)), (2, .int (nI p)), (3, .int (nI h)), (4, .int (nI w)), (5, .long (zL ((zos τ c h p u)))), (7, .int (nI u)), (8, .long (zL ((zwt c u (yne τ)))))] [.ref 50] μ1 rfl trivial ?_
      refine zq_call zt_X9_chanceOf [.ref 50] [] (zs_tryM hM1 hN1 hl9 (show u < 2 ^ 31 by omega)) rfl rfl ?_
      rintro _ μ2 ⟨rfl, hM2, f2, s2, hN2, q2⟩
      have hQ : zQm (ynp τ) (yRt τ u) μ2 := q2
      refine zq_go zt_X9_chanceOf 4 [] 89 [(0, .ref 50), (1, .int (nI c)), (2, .int (nI p)), (3, .int (nI h)), (4, .int (nI w)), (5, .long (zL ((zos τ c h p u)))), (7, .int (nI u)), (8, .long (zL ((zwt c u (yne τ)))))] [.int (nI p), .int (nI h), .ref 50, .long (zL ((zos τ c h p u)))] μ2 rfl trivial ?_
      refine zq_call zt_X9_chanceOf [.ref 50, .int (nI h), .int (nI p)] [.long (zL ((zos τ c h p u)))] (zs_isByItself hQ hh lp) rfl rfl ?_
      rintro _ _ ⟨rfl, rfl⟩
      refine zq_go zt_X9_chanceOf 1 [] (if (zB (zbi (ynp τ) (yRt τ u) h p)) = 0 then 100 else 95) [(0, .ref 50), (1, .int (nI c)), (2, .int (nI p)), (3, .int (nI h)), (4, .int (nI w)), (5, .long (zL ((zos τ c h p u)))), (7, .int (nI u)), (8, .long (zL ((zwt c u (yne τ)))))] [.long (zL ((zos τ c h p u)))] μ2 rfl trivial ?_
      refine zq_ite (fun h61 => ?_) (fun h61 => ?_)
      · have h7 := zB_f h61
        have e9 : zos τ c h p (u + 1) = zos τ c h p u + 0 := by
          rw [zos_s, h7]
          rw [if_neg (fun x => absurd x.1 (by decide))]
        refine zq_go zt_X9_chanceOf 5 [] 10 [(0, .ref 50), (1, .int (nI c)), (2, .int (nI p)), (3, .int (nI h)), (4, .int (nI w)), (5, .long ((zL ((zos τ c h p u))) + 0)), (7, .int ((nI u) + (nI 1))), (8, .long (zL ((zwt c u (yne τ)))))] [] μ2 rfl trivial ?_
        rw [zn_add u 1]
        rw [show zL (zos τ c h p u) + 0 = zL (zos τ c h p u + 0) from zL_add _ 0]
        have h9 := ih (u + 1) μ2 (by omega) ⟨hM2, hF.tr ((f1.wk (by simp [zSM])).tr (f2.wk (by simp +contextual [zSM]))), u, hN2⟩
        rw [e9] at h9
        exact zq_drp [0, 1, 2, 3, 4, 5, 7] _ rfl h9
      · have h7 := zB_t h61
        have e9 : zos τ c h p (u + 1) = zos τ c h p u + zwt c u (yne τ) := by
          rw [zos_s, h7]
          rw [if_pos ⟨rfl, lp⟩]
        refine zq_go zt_X9_chanceOf 2 [] 101 [(0, .ref 50), (1, .int (nI c)), (2, .int (nI p)), (3, .int (nI h)), (4, .int (nI w)), (5, .long (zL ((zos τ c h p u)))), (7, .int (nI u)), (8, .long (zL ((zwt c u (yne τ)))))] [.long (zL ((zwt c u (yne τ)))), .long (zL ((zos τ c h p u)))] μ2 rfl trivial ?_
        refine zq_go zt_X9_chanceOf 4 [] 10 [(0, .ref 50), (1, .int (nI c)), (2, .int (nI p)), (3, .int (nI h)), (4, .int (nI w)), (5, .long ((zL ((zos τ c h p u))) + (zL ((zwt c u (yne τ)))))), (7, .int ((nI u) + (nI 1))), (8, .long (zL ((zwt c u (yne τ)))))] [] μ2 rfl trivial ?_
        rw [zn_add u 1]
        rw [zL_add]
        have h9 := ih (u + 1) μ2 (by omega) ⟨hM2, hF.tr ((f1.wk (by simp [zSM])).tr (f2.wk (by simp +contextual [zSM]))), u, hN2⟩
        rw [e9] at h9
        exact zq_drp [0, 1, 2, 3, 4, 5, 7] _ rfl h9
set_option maxRecDepth 100000 in
set_option maxHeartbeats 400000 in
theorem zs_chanceOf {τ : zTd} {S : zES} {H : zSH} {μ0 : zq_Me} {c p h w : Nat} (hc : c ≤ 16) (lp : p < ynp τ) (lh : h ≤ 23) (lw : w ≤ 1) (hM : zIm τ S H μ0) : zq_Wp zn_X9_chanceOf 0 [(0, .ref 50), (1, .int (nI c)), (2, .int (nI p)), (3, .int (nI h)), (4, .int (nI w))] [] μ0 (fun r μ => r = some (.long (zL (yCh (zod τ c h p) (4 * yne τ) w))) ∧ zIm τ S H μ ∧ zq_fr zSM μ0 μ ∧ zDm (ynd τ) (yo1 τ) (yo2 τ) μ ∧ zPm (ynp τ) (ysr τ) (yst τ) (ybd τ) μ) := by
  refine zq_go zt_X9_chanceOf 1 [] 1 [(0, .ref 50), (1, .int (nI c)), (2, .int (nI p)), (3, .int (nI h)), (4, .int (nI w))] [.ref 50] μ0 rfl trivial ?_
  refine zq_call zt_X9_chanceOf [.ref 50] [] (zs_asTold hM) rfl rfl ?_
  rintro _ ν1 ⟨rfl, n1, k1, o1⟩
  refine zq_go zt_X9_chanceOf 4 [] 10 [(0, .ref 50), (1, .int (nI c)), (2, .int (nI p)), (3, .int (nI h)), (4, .int (nI w)), (5, .long 0), (7, .int (nI 0))] [] ν1 rfl trivial ?_
  exact zs_chm_u hc lp (show h < 24 by omega) lw (2 ^ yne τ) 0 ν1 (by omega) ⟨n1, k1, 0, o1.r⟩
set_option maxRecDepth 100000 in
set_option maxHeartbeats 400000 in
theorem zs_chancem {τ : zTd} {S : zES} {H : zSH} {μ0 : zq_Me} {c p h w : Nat} (hc : c ≤ 16) (lp : p < ynp τ) (lh : h ≤ 23) (lw : w ≤ 1) (hM : zIm τ S H μ0) : zq_Wp zn_X9_chance 0 [(0, .ref 50), (1, .int (nI c)), (2, .int (nI p)), (3, .int (nI h)), (4, .int (nI w))] [] μ0 (zRm' (.long (zL (yCh (zod τ c h p) (4 * yne τ) w))) τ S H μ0) := by
  refine zq_go zt_X9_chance 3 [] 4 [(0, .ref 50), (1, .int (nI c)), (2, .int (nI p)), (3, .int (nI h)), (4, .int (nI w))] [.int (nI 16), .int (nI 0), .int (nI c)] μ0 rfl trivial ?_
  refine zq_call zt_X9_chance [.int (nI c), .int (nI 0), .int (nI 16)] [] (zs_in (nI c) (nI 0) (nI 16) μ0) rfl rfl ?_
  rintro _ _ ⟨rfl, rfl⟩
  refine zq_go zt_X9_chance 1 [] (if (zb (0 ≤ (nI c) ∧ (nI c) ≤ nI 16)) = 0 then 45 else 10) [(0, .ref 50), (1, .int (nI c)), (2, .int (nI p)), (3, .int (nI h)), (4, .int (nI w))] [] μ0 rfl trivial ?_
  rw [if_neg (zb_n (yin (by omega) (by decide)))]
  refine zq_go zt_X9_chance 2 [] 12 [(0, .ref 50), (1, .int (nI c)), (2, .int (nI p)), (3, .int (nI h)), (4, .int (nI w))] [.int (nI p), .ref 50] μ0 rfl trivial ?_
  refine zq_call zt_X9_chance [.ref 50, .int (nI p)] [] (zs_isPersonm (nI p) hM) rfl rfl ?_
  rintro _ ν0 ⟨rfl, n0, k0, d0, p0⟩
  have hnp := p0.1
  refine zq_go zt_X9_chance 1 [] (if (zb (0 ≤ (nI p) ∧ (nI p) ≤ nI (ynp τ) - nI 1)) = 0 then 45 else 18) [(0, .ref 50), (1, .int (nI c)), (2, .int (nI p)), (3, .int (nI h)), (4, .int (nI w))] [] ν0 rfl trivial ?_
  rw [if_neg (zb_n (yip lp (by omega)))]
  refine zq_go zt_X9_chance 1 [] 19 [(0, .ref 50), (1, .int (nI c)), (2, .int (nI p)), (3, .int (nI h)), (4, .int (nI w))] [.int (nI h)] ν0 rfl trivial ?_
  refine zq_call zt_X9_chance [.int (nI h)] [] (zs_isHourm (nI h) ν0) rfl rfl ?_
  rintro _ _ ⟨rfl, rfl⟩
  refine zq_go zt_X9_chance 1 [] (if (zb (0 ≤ (nI h) ∧ (nI h) ≤ nI 23)) = 0 then 45 else 25) [(0, .ref 50), (1, .int (nI c)), (2, .int (nI p)), (3, .int (nI h)), (4, .int (nI w))] [] ν0 rfl trivial ?_
  rw [if_neg (zb_n (yin (by omega) (by decide)))]
  refine zq_go zt_X9_chance 1 [] 27 [(0, .ref 50), (1, .int (nI c)), (2, .int (nI p)), (3, .int (nI h)), (4, .int (nI w))] [.int (nI w)] ν0 rfl trivial ?_
  refine zq_call zt_X9_chance [.int (nI w)] [] (zs_isTwom (nI w) ν0) rfl rfl ?_
  rintro _ _ ⟨rfl, rfl⟩
  refine zq_go zt_X9_chance 1 [] (if (zb (0 ≤ (nI w) ∧ (nI w) ≤ nI 1)) = 0 then 45 else 33) [(0, .ref 50), (1, .int (nI c)), (2, .int (nI p)), (3, .int (nI h)), (4, .int (nI w))] [] ν0 rfl trivial ?_
  rw [if_neg (zb_n (yin (by omega) (by decide)))]
  refine zq_go zt_X9_chance 5 [] 39 [(0, .ref 50), (1, .int (nI c)), (2, .int (nI p)), (3, .int (nI h)), (4, .int (nI w))] [.int (nI w), .int (nI h), .int (nI p), .int (nI c), .ref 50] ν0 rfl trivial ?_
  refine zq_call zt_X9_chance [.ref 50, .int (nI c), .int (nI p), .int (nI h), .int (nI w)] [] (zs_chanceOf hc lp lh lw n0) rfl rfl ?_
  rintro _ ν1 ⟨rfl, n1, k1, d1, p1⟩
  refine zq_go zt_X9_chance 1 [] 50 [(0, .ref 50), (1, .int (nI c)), (2, .int (nI p)), (3, .int (nI h)), (4, .int (nI w))] [.long (zL ((yCh (zod τ c h p) (4 * yne τ) w)))] ν1 rfl trivial ?_
  exact zq_retn zt_X9_chance rfl rfl (⟨rfl, n1, k0.tr k1⟩)
set_option maxRecDepth 100000 in
set_option maxHeartbeats 400000 in
theorem zs_no (μ : zq_Me) : zq_Wp zn_X9_no 0 [(0, .int (-2 : Int32))] [] μ (fun r μ1 => r = some (.long (-9223372036854775806)) ∧ μ = μ1) := by
  refine zq_go zt_X9_no 4 [] 6 [(0, .int (-2 : Int32))] [.long ((-9223372036854775808) - ((-2 : Int32).toInt64))] μ rfl trivial ?_
  rw [show (-9223372036854775808 : Int64) - (-2 : Int32).toInt64 = -9223372036854775806 by decide +kernel]
  exact zq_retn zt_X9_no rfl rfl (⟨rfl, rfl⟩)
set_option maxRecDepth 100000 in
set_option maxHeartbeats 400000 in
theorem zs_chancem_b {τ : zTd} {S : zES} {H : zSH} {μ0 : zq_Me} (v1 v2 v3 v4 : Int32) (hg : ¬ ((0 ≤ v1 ∧ v1 ≤ nI 16) ∧ (0 ≤ v2 ∧ v2 ≤ nI (ynp τ) - nI 1) ∧ (0 ≤ v3 ∧ v3 ≤ nI 23) ∧ (0 ≤ v4 ∧ v4 ≤ nI 1))) (hM : zIm τ S H μ0) : zq_Wp zn_X9_chance 0 [(0, .ref 50), (1, .int v1), (2, .int v2), (3, .int v3), (4, .int v4)] [] μ0 (zRm' (.long (-9223372036854775806)) τ S H μ0) := by
  refine zq_go zt_X9_chance 3 [] 4 [(0, .ref 50), (1, .int v1), (2, .int v2), (3, .int v3), (4, .int v4)] [.int (nI 16), .int (nI 0), .int v1] μ0 rfl trivial ?_
  refine zq_call zt_X9_chance [.int v1, .int (nI 0), .int (nI 16)] [] (zs_in v1 (nI 0) (nI 16) μ0) rfl rfl ?_
  rintro _ _ ⟨rfl, rfl⟩
  refine zq_go zt_X9_chance 1 [] (if (zb (0 ≤ v1 ∧ v1 ≤ nI 16)) = 0 then 45 else 10) [(0, .ref 50), (1, .int v1), (2, .int v2), (3, .int v3), (4, .int v4)] [] μ0 rfl trivial ?_
  refine zq_ite (fun h4 => ?_) (fun h4 => ?_)
  · refine zq_go zt_X9_chance 1 [] 47 [(0, .ref 50), (1, .int v1), (2, .int v2), (3, .int v3), (4, .int v4)] [.int (-2)] μ0 rfl trivial ?_
    refine zq_call zt_X9_chance [.int (-2)] [] (zs_no μ0) rfl rfl ?_
    rintro _ _ ⟨rfl, rfl⟩
    exact zq_retn zt_X9_chance rfl rfl (⟨rfl, hM, zq_fr.rf⟩)
  · have g0 := zb_p h4
    refine zq_go zt_X9_chance 2 [] 12 [(0, .ref 50), (1, .int v1), (2, .int v2), (3, .int v3), (4, .int v4)] [.int v2, .ref 50] μ0 rfl trivial ?_
    refine zq_call zt_X9_chance [.ref 50, .int v2] [] (zs_isPersonm v2 hM) rfl rfl ?_
    rintro _ ν0 ⟨rfl, n0, k0, d0, p0⟩
    refine zq_go zt_X9_chance 1 [] (if (zb (0 ≤ v2 ∧ v2 ≤ nI (ynp τ) - nI 1)) = 0 then 45 else 18) [(0, .ref 50), (1, .int v1), (2, .int v2), (3, .int v3), (4, .int v4)] [] ν0 rfl trivial ?_
    refine zq_ite (fun h14 => ?_) (fun h14 => ?_)
    · refine zq_go zt_X9_chance 1 [] 47 [(0, .ref 50), (1, .int v1), (2, .int v2), (3, .int v3), (4, .int v4)] [.int (-2)] ν0 rfl trivial ?_
      refine zq_call zt_X9_chance [.int (-2)] [] (zs_no ν0) rfl rfl ?_
      rintro _ _ ⟨rfl, rfl⟩
      exact zq_retn zt_X9_chance rfl rfl (⟨rfl, n0, k0⟩)
    · have g1 := zb_p h14
      refine zq_go zt_X9_chance 1 [] 19 [(0, .ref 50), (1, .int v1), (2, .int v2), (3, .int v3), (4, .int v4)] [.int v3] ν0 rfl trivial ?_
      refine zq_call zt_X9_chance [.int v3] [] (zs_isHourm v3 ν0) rfl rfl ?_
      rintro _ _ ⟨rfl, rfl⟩
      refine zq_go zt_X9_chance 1 [] (if (zb (0 ≤ v3 ∧ v3 ≤ nI 23)) = 0 then 45 else 25) [(0, .ref 50), (1, .int v1), (2, .int v2), (3, .int v3), (4, .int v4)] [] ν0 rfl trivial ?_
      refine zq_ite (fun h24 => ?_) (fun h24 => ?_)
      · refine zq_go zt_X9_chance 1 [] 47 [(0, .ref 50), (1, .int v1), (2, .int v2), (3, .int v3), (4, .int v4)] [.int (-2)] ν0 rfl trivial ?_
        refine zq_call zt_X9_chance [.int (-2)] [] (zs_no ν0) rfl rfl ?_
        rintro _ _ ⟨rfl, rfl⟩
        exact zq_retn zt_X9_chance rfl rfl (⟨rfl, n0, k0⟩)
      · have g2 := zb_p h24
        refine zq_go zt_X9_chance 1 [] 27 [(0, .ref 50), (1, .int v1), (2, .int v2), (3, .int v3), (4, .int v4)] [.int v4] ν0 rfl trivial ?_
        refine zq_call zt_X9_chance [.int v4] [] (zs_isTwom v4 ν0) rfl rfl ?_
        rintro _ _ ⟨rfl, rfl⟩
        refine zq_go zt_X9_chance 1 [] (if (zb (0 ≤ v4 ∧ v4 ≤ nI 1)) = 0 then 45 else 33) [(0, .ref 50), (1, .int v1), (2, .int v2), (3, .int v3), (4, .int v4)] [] ν0 rfl trivial ?_
        refine zq_ite (fun h34 => ?_) (fun h34 => ?_)
        · refine zq_go zt_X9_chance 1 [] 47 [(0, .ref 50), (1, .int v1), (2, .int v2), (3, .int v3), (4, .int v4)] [.int (-2)] ν0 rfl trivial ?_
          refine zq_call zt_X9_chance [.int (-2)] [] (zs_no ν0) rfl rfl ?_
          rintro _ _ ⟨rfl, rfl⟩
          exact zq_retn zt_X9_chance rfl rfl (⟨rfl, n0, k0⟩)
        · exact absurd ⟨g0, g1, g2, zb_p h34⟩ hg
theorem zo_chance (v1 v2 v3 v4 : Int32) : zop zn_X8_chance [(0, .ref 0), (1, .int v1), (2, .int v2), (3, .int v3), (4, .int v4)] zn_X9_chance [(0, .ref 50), (1, .int v1), (2, .int v2), (3, .int v3), (4, .int v4)] := by
  intro τ S H μ hC hM
  by_cases hg : (0 ≤ v1 ∧ v1 ≤ nI 16) ∧ (0 ≤ v2 ∧ v2 ≤ nI (ynp τ) - nI 1) ∧ (0 ≤ v3 ∧ v3 ≤ nI 23) ∧ (0 ≤ v4 ∧ v4 ≤ nI 1)
  · have h9 := hC.2.1.2.1
    obtain ⟨c, hc, rfl⟩ := yix (by decide) hg.1
    obtain ⟨p, lp, rfl⟩ := ypx (by omega) hg.2.1
    obtain ⟨h, lh, rfl⟩ := yix (by decide) hg.2.2.1
    obtain ⟨w, lw, rfl⟩ := yix (by decide) hg.2.2.2
    exact ⟨_, τ, S, H, zs_chance hc lp lh lw hC, fun _ q => zs_chancem hc lp lh lw q⟩
  · exact ⟨_, τ, S, H, zs_chance_b v1 v2 v3 v4 hg hC, fun _ q => zs_chancem_b v1 v2 v3 v4 hg q⟩
