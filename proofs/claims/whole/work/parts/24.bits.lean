/-! ===== counting bits: Integer.bitCount, and bit by bit ===== -/
theorem zk_su : ∀ n, n < 32 → (((nI n).toUInt32 &&& Int32.toUInt32 31).toBitVec % 32).toNat = n := by decide +kernel
theorem zn_ush {n k : Nat} (hn : n < 2 ^ 32) (hk : k < 32) : zq_ush (nI n) (nI k) = nI (n / 2 ^ k) := pk_ushrN hn _ k (zk_su k hk)
theorem zk_and {x p y q : Nat} (hx : x < 2 ^ 8) (hp : p < 2 ^ 8) : (2 ^ 8 * y + x) &&& (2 ^ 8 * q + p) = 2 ^ 8 * (y &&& q) + (x &&& p) := by
  apply Nat.eq_of_testBit_eq
  intro i
  rw [Nat.testBit_and, Nat.testBit_two_pow_mul_add _ hx, Nat.testBit_two_pow_mul_add _ hp, Nat.testBit_two_pow_mul_add _ (Nat.lt_of_le_of_lt Nat.and_le_left hx)]
  split
  · rw [Nat.testBit_and]
  · rw [Nat.testBit_and]
def zk_f (x : Nat) : Nat := x - (x / 2 &&& 85)
def zk_g (x : Nat) : Nat := (zk_f x &&& 51) + (zk_f x / 4 &&& 51)
def zk_h (x : Nat) : Nat := (zk_g x + zk_g x / 16) &&& 15
theorem zk_1 : ∀ x, x < 256 → ∀ e, e < 2 → (x / 2 + 128 * e) &&& 85 = x / 2 &&& 85 := by decide +kernel
theorem zk_1b : ∀ x, x < 256 → x / 2 &&& 85 ≤ x ∧ zk_f x < 256 := by decide +kernel
theorem zk_2 : ∀ x, x < 256 → ∀ e, e < 4 → (x / 4 + 64 * e) &&& 51 = x / 4 &&& 51 := by decide +kernel
theorem zk_2b : ∀ x, x < 256 → zk_g x < 69 ∧ zk_g x % 16 < 5 ∧ zk_g x / 16 < 5 := by decide +kernel
theorem zk_3 : ∀ u, u < 69 → ∀ e, e < 5 → (u + u / 16 + 16 * e) &&& 15 = (u + u / 16) &&& 15 := by decide +kernel
theorem zk_3b : ∀ x, x < 256 → zk_h x = zc x.testBit 8 := by decide +kernel
theorem zk_4 : ∀ x, x < 64 → x &&& 63 = x := by decide +kernel
theorem zk_63 {x y : Nat} (hx : x < 64) : (2 ^ 8 * y + x) &&& 63 = x := by
  have h := zk_and (x := x) (p := 63) (y := y) (q := 0) (by omega) (by decide)
  rw [Nat.mul_zero, Nat.zero_add, Nat.and_zero, Nat.mul_zero, Nat.zero_add, zk_4 x hx] at h
  exact h
def zk_bc (n : Nat) : Nat :=
  let a1 := n - (n / 2 &&& 1431655765)
  let a2 := (a1 &&& 858993459) + (a1 / 4 &&& 858993459)
  let a3 := (a2 + a2 / 16) &&& 252645135
  let a4 := a3 + a3 / 256
  let a5 := a4 + a4 / 65536
  a5 &&& 63
theorem zk_bytes {a b c : Nat} (ha : a < 256) (hb : b < 256) (hc : c < 256) : zk_bc (2 ^ 8 * (2 ^ 8 * c + b) + a) = zk_h a + zk_h b + zk_h c := by
  have e1 : (2 ^ 8 * (2 ^ 8 * c + b) + a) / 2 &&& 1431655765 = 2 ^ 8 * (2 ^ 8 * (c / 2 &&& 85) + (b / 2 &&& 85)) + (a / 2 &&& 85) := by
    rw [show (2 ^ 8 * (2 ^ 8 * c + b) + a) / 2 = 2 ^ 8 * (2 ^ 8 * (2 ^ 8 * 0 + c / 2) + (b / 2 + 128 * (c % 2))) + (a / 2 + 128 * (b % 2)) by omega, show 1431655765 = 2 ^ 8 * (2 ^ 8 * (2 ^ 8 * 85 + 85) + 85) + 85 by decide, zk_and (by omega) (by decide), zk_and (by omega) (by decide), zk_and (by omega) (by decide), zk_1 a ha _ (by omega), zk_1 b hb _ (by omega), Nat.zero_and, Nat.mul_zero, Nat.zero_add]
  obtain ⟨la, fa⟩ := zk_1b a ha
  obtain ⟨lb, fb⟩ := zk_1b b hb
  obtain ⟨lc, fc⟩ := zk_1b c hc
  have e2 : (2 ^ 8 * (2 ^ 8 * c + b) + a) - ((2 ^ 8 * (2 ^ 8 * c + b) + a) / 2 &&& 1431655765) = 2 ^ 8 * (2 ^ 8 * zk_f c + zk_f b) + zk_f a := by
    rw [e1]
    unfold zk_f
    omega
  have e3 : (2 ^ 8 * (2 ^ 8 * zk_f c + zk_f b) + zk_f a) &&& 858993459 = 2 ^ 8 * (2 ^ 8 * (zk_f c &&& 51) + (zk_f b &&& 51)) + (zk_f a &&& 51) := by
    rw [show 2 ^ 8 * (2 ^ 8 * zk_f c + zk_f b) + zk_f a = 2 ^ 8 * (2 ^ 8 * (2 ^ 8 * 0 + zk_f c) + zk_f b) + zk_f a by omega, show 858993459 = 2 ^ 8 * (2 ^ 8 * (2 ^ 8 * 51 + 51) + 51) + 51 by decide, zk_and (by omega) (by decide), zk_and (by omega) (by decide), zk_and (by omega) (by decide), Nat.zero_and, Nat.mul_zero, Nat.zero_add]
  have e4 : (2 ^ 8 * (2 ^ 8 * zk_f c + zk_f b) + zk_f a) / 4 &&& 858993459 = 2 ^ 8 * (2 ^ 8 * (zk_f c / 4 &&& 51) + (zk_f b / 4 &&& 51)) + (zk_f a / 4 &&& 51) := by
    rw [show (2 ^ 8 * (2 ^ 8 * zk_f c + zk_f b) + zk_f a) / 4 = 2 ^ 8 * (2 ^ 8 * (2 ^ 8 * 0 + zk_f c / 4) + (zk_f b / 4 + 64 * (zk_f c % 4))) + (zk_f a / 4 + 64 * (zk_f b % 4)) by omega, show 858993459 = 2 ^ 8 * (2 ^ 8 * (2 ^ 8 * 51 + 51) + 51) + 51 by decide, zk_and (by omega) (by decide), zk_and (by omega) (by decide), zk_and (by omega) (by decide), zk_2 _ fa _ (by omega), zk_2 _ fb _ (by omega), Nat.zero_and, Nat.mul_zero, Nat.zero_add]
  have e5 : (2 ^ 8 * (2 ^ 8 * (zk_f c &&& 51) + (zk_f b &&& 51)) + (zk_f a &&& 51)) + (2 ^ 8 * (2 ^ 8 * (zk_f c / 4 &&& 51) + (zk_f b / 4 &&& 51)) + (zk_f a / 4 &&& 51)) = 2 ^ 8 * (2 ^ 8 * zk_g c + zk_g b) + zk_g a := by
    unfold zk_g
    omega
  obtain ⟨ga, ga2, ga3⟩ := zk_2b a ha
  obtain ⟨gb, gb2, gb3⟩ := zk_2b b hb
  obtain ⟨gc, gc2, gc3⟩ := zk_2b c hc
  have e6 : (2 ^ 8 * (2 ^ 8 * zk_g c + zk_g b) + zk_g a + (2 ^ 8 * (2 ^ 8 * zk_g c + zk_g b) + zk_g a) / 16) &&& 252645135 = 2 ^ 8 * (2 ^ 8 * zk_h c + zk_h b) + zk_h a := by
    rw [show 2 ^ 8 * (2 ^ 8 * zk_g c + zk_g b) + zk_g a + (2 ^ 8 * (2 ^ 8 * zk_g c + zk_g b) + zk_g a) / 16 = 2 ^ 8 * (2 ^ 8 * (2 ^ 8 * 0 + (zk_g c + zk_g c / 16)) + (zk_g b + zk_g b / 16 + 16 * (zk_g c % 16))) + (zk_g a + zk_g a / 16 + 16 * (zk_g b % 16)) by omega, show 252645135 = 2 ^ 8 * (2 ^ 8 * (2 ^ 8 * 15 + 15) + 15) + 15 by decide, zk_and (by omega) (by decide), zk_and (by omega) (by decide), zk_and (by omega) (by decide), zk_3 _ ga _ gb2, zk_3 _ gb _ gc2, Nat.zero_and, Nat.mul_zero, Nat.zero_add]
    rfl
  have ha8 := zc_le a.testBit 8
  have hb8 := zc_le b.testBit 8
  have hc8 := zc_le c.testBit 8
  rw [← zk_3b a ha] at ha8
  rw [← zk_3b b hb] at hb8
  rw [← zk_3b c hc] at hc8
  unfold zk_bc
  dsimp only
  rw [e2, e3, e4, e5, e6]
  rw [show (2 ^ 8 * (2 ^ 8 * zk_h c + zk_h b) + zk_h a + (2 ^ 8 * (2 ^ 8 * zk_h c + zk_h b) + zk_h a) / 256 + (2 ^ 8 * (2 ^ 8 * zk_h c + zk_h b) + zk_h a + (2 ^ 8 * (2 ^ 8 * zk_h c + zk_h b) + zk_h a) / 256) / 65536) = 2 ^ 8 * (2 ^ 8 * zk_h c + (zk_h b + zk_h c)) + (zk_h a + zk_h b + zk_h c) by omega]
  exact zk_63 (by omega)
theorem zc_split (p : Nat → Bool) (m : Nat) : ∀ k, zc p (m + k) = zc p m + zc (fun i => p (m + i)) k
  | 0 => rfl
  | k + 1 => by
    have h1 : zc p (m + (k + 1)) = zc p (m + k) + (if p (m + k) = true then 1 else 0) := rfl
    have h2 : zc (fun i => p (m + i)) (k + 1) = zc (fun i => p (m + i)) k + (if p (m + k) = true then 1 else 0) := rfl
    rw [h1, h2, zc_split p m k]
    omega
theorem zc_congr {p q : Nat → Bool} : ∀ {n : Nat}, (∀ i, i < n → p i = q i) → zc p n = zc q n
  | 0, _ => rfl
  | n + 1, h => by
    show zc p n + _ = zc q n + _
    rw [zc_congr (n := n) (fun i hi => h i (by omega)), h n (by omega)]
theorem zk_count {n : Nat} (hn : n < 2 ^ 24) : zk_bc n = zc n.testBit 24 := by
  have e : n = 2 ^ 8 * (2 ^ 8 * (n / 65536) + n / 256 % 256) + n % 256 := by omega
  have hc : n / 65536 < 256 := by omega
  rw [e, zk_bytes (by omega) (by omega) hc, zk_3b _ (by omega), zk_3b _ (by omega), zk_3b _ hc]
  generalize n / 65536 = c
  generalize hb9 : n / 256 % 256 = b
  generalize ha9 : n % 256 = a
  have ha : a < 2 ^ 8 := by omega
  have hb : b < 2 ^ 8 := by omega
  rw [show 24 = 8 + (8 + 8) from rfl, zc_split, zc_split]
  have h1 : zc (2 ^ 8 * (2 ^ 8 * c + b) + a).testBit 8 = zc a.testBit 8 := zc_congr (fun i hi => by rw [Nat.testBit_two_pow_mul_add _ ha, if_pos hi])
  have h2 : zc (fun i => (2 ^ 8 * (2 ^ 8 * c + b) + a).testBit (8 + i)) 8 = zc b.testBit 8 := zc_congr (fun i hi => by rw [Nat.testBit_two_pow_mul_add _ ha, if_neg (by omega), Nat.add_sub_cancel_left, Nat.testBit_two_pow_mul_add _ hb, if_pos hi])
  have h3 : zc (fun i => (2 ^ 8 * (2 ^ 8 * c + b) + a).testBit (8 + (8 + i))) 8 = zc c.testBit 8 := zc_congr (fun i hi => by rw [Nat.testBit_two_pow_mul_add _ ha, if_neg (by omega), Nat.add_sub_cancel_left, Nat.testBit_two_pow_mul_add _ hb, if_neg (by omega), Nat.add_sub_cancel_left])
  rw [h1, h2, h3]
  omega
theorem zc_zm (p : Nat → Bool) (n : Nat) (hn : n ≤ 24) : zc (zm p n).testBit 24 = zc p n := by
  obtain ⟨k, hk⟩ : ∃ k, 24 = n + k := ⟨24 - n, by omega⟩
  rw [hk, zc_split, zc_congr (p := (zm p n).testBit) (q := p) (n := n) (fun i hi => by rw [zm_tb]; simp [hi])]
  have : zc (fun i => (zm p n).testBit (n + i)) k = 0 := by
    have h1 : ∀ k, zc (fun i => (zm p n).testBit (n + i)) k = 0 := by
      intro k
      induction k with
      | zero => rfl
      | succ k ih =>
        have h2 : zc (fun i => (zm p n).testBit (n + i)) (k + 1) = zc (fun i => (zm p n).testBit (n + i)) k + (if (zm p n).testBit (n + k) = true then 1 else 0) := rfl
        rw [h2, ih, zm_tb]
        have h3 : ¬ n + k < n := by omega
        simp [h3]
    exact h1 k
  omega
set_option maxRecDepth 100000 in
set_option maxHeartbeats 4000000 in
theorem zs_bc {n : Nat} (hn : n < 2 ^ 24) (μ : zq_Me) : zq_Wp zn_J6_bitCount_0f7a4 0 [(0, .int (nI n))] [] μ (zq_pi (nI (zc n.testBit 24)) μ) := by
  refine zq_go zt_J6_bitCount_0f7a4 8 [] 10 [(0, .int ((nI n) - ((zq_ush (nI n) (nI 1)) &&& (nI 1431655765))))] [] μ rfl trivial ?_
  rw [zn_ush (n := n) (k := 1) (by omega) (by decide), zn_and, zn_sub (Nat.le_trans Nat.and_le_left (Nat.div_le_self _ _))]
  obtain ⟨a1, h1⟩ : ∃ a, a = n - (n / 2 ^ 1 &&& 1431655765) := ⟨_, rfl⟩
  have b1 : a1 < 2 ^ 24 := by omega
  rw [← h1]
  refine zq_go zt_J6_bitCount_0f7a4 10 [] 24 [(0, .int (((nI a1) &&& (nI 858993459)) + ((zq_ush (nI a1) (nI 2)) &&& (nI 858993459))))] [] μ rfl trivial ?_
  rw [zn_ush (n := a1) (k := 2) (by omega) (by decide), zn_and, zn_and, zn_add]
  obtain ⟨a2, h2⟩ : ∃ a, a = (a1 &&& 858993459) + (a1 / 2 ^ 2 &&& 858993459) := ⟨_, rfl⟩
  have b2 : a2 < 2 ^ 26 := by
    have q1 : a1 &&& 858993459 ≤ a1 := Nat.and_le_left
    have q2 : a1 / 2 ^ 2 &&& 858993459 ≤ a1 / 2 ^ 2 := Nat.and_le_left
    omega
  rw [← h2]
  refine zq_go zt_J6_bitCount_0f7a4 8 [] 34 [(0, .int (((nI a2) + (zq_ush (nI a2) (nI 4))) &&& (nI 252645135)))] [] μ rfl trivial ?_
  rw [zn_ush (n := a2) (k := 4) (by omega) (by decide), zn_add, zn_and]
  obtain ⟨a3, h3⟩ : ∃ a, a = (a2 + a2 / 2 ^ 4) &&& 252645135 := ⟨_, rfl⟩
  have b3 : a3 < 2 ^ 28 := by
    have q1 : (a2 + a2 / 2 ^ 4) &&& 252645135 ≤ a2 + a2 / 2 ^ 4 := Nat.and_le_left
    omega
  rw [← h3]
  refine zq_go zt_J6_bitCount_0f7a4 6 [] 41 [(0, .int ((nI a3) + (zq_ush (nI a3) (nI 8))))] [] μ rfl trivial ?_
  rw [zn_ush (n := a3) (k := 8) (by omega) (by decide), zn_add]
  obtain ⟨a4, h4⟩ : ∃ a, a = a3 + a3 / 2 ^ 8 := ⟨_, rfl⟩
  have b4 : a4 < 2 ^ 30 := by omega
  rw [← h4]
  refine zq_go zt_J6_bitCount_0f7a4 6 [] 48 [(0, .int ((nI a4) + (zq_ush (nI a4) (nI 16))))] [] μ rfl trivial ?_
  rw [zn_ush (n := a4) (k := 16) (by omega) (by decide), zn_add]
  refine zq_go zt_J6_bitCount_0f7a4 3 [] 52 [(0, .int (nI (a4 + a4 / 2 ^ 16)))] [.int ((nI (a4 + a4 / 2 ^ 16)) &&& (nI 63))] μ rfl trivial ?_
  rw [zn_and]
  have e : (a4 + a4 / 2 ^ 16) &&& 63 = zc n.testBit 24 := by
    rw [← zk_count hn, h4, h3, h2, h1]
    rfl
  rw [e]
  exact zq_retn zt_J6_bitCount_0f7a4 rfl rfl (⟨rfl, rfl⟩)
set_option maxRecDepth 100000 in
set_option maxHeartbeats 4000000 in
theorem zs_many_l {Q : zq_Post} {s : Nat} (hs : s < 2 ^ 31) {μ : zq_Me} (kk : zq_Wp zn_X9_many 32 [(2, .int (nI (zc s.testBit 24)))] [] μ Q) : ∀ (j k : Nat), k + j = 24 → zq_Wp zn_X9_many 4 [(0, .ref 50), (1, .int (nI s)), (2, .int (nI (zc s.testBit k))), (3, .int (nI k))] [] μ Q := by
  intro j
  induction j with
  | zero =>
    intro k hij
    obtain rfl : k = 24 := by omega
    refine zq_go zt_X9_many 3 [] (if (nI 24) ≤ (nI 24) then 32 else 10) [(0, .ref 50), (1, .int (nI s)), (2, .int (nI (zc s.testBit 24))), (3, .int (nI 24))] [] μ rfl trivial ?_
    rw [if_pos (by decide)]
    exact zq_drp [2] [(2, .int (nI (zc s.testBit 24)))] rfl kk
  | succ j ih =>
    intro k hij
    refine zq_go zt_X9_many 3 [] (if (nI 24) ≤ (nI k) then 32 else 10) [(0, .ref 50), (1, .int (nI s)), (2, .int (nI (zc s.testBit k))), (3, .int (nI k))] [] μ rfl trivial ?_
    rw [if_neg (by rw [zn_le (by omega) (by omega)]; omega)]
    refine zq_go zt_X9_many 3 [] 13 [(0, .ref 50), (1, .int (nI s)), (2, .int (nI (zc s.testBit k))), (3, .int (nI k))] [.int (nI k), .int (nI s), .int (nI (zc s.testBit k))] μ rfl trivial ?_
    refine zq_call zt_X9_many [.int (nI s), .int (nI k)] [.int (nI (zc s.testBit k))] (zs_isIn s k hs (by omega) μ) rfl rfl ?_
    rintro _ _ ⟨rfl, rfl⟩
    refine zq_go zt_X9_many 1 [] (if (zB (s.testBit k)) = 0 then 23 else 19) [(0, .ref 50), (1, .int (nI s)), (2, .int (nI (zc s.testBit k))), (3, .int (nI k))] [.int (nI (zc s.testBit k))] μ rfl trivial ?_
    refine zq_ite (fun h16 => ?_) (fun h16 => ?_)
    · have hb := zB_f h16
      refine zq_go zt_X9_many 5 [] 4 [(0, .ref 50), (1, .int (nI s)), (2, .int ((nI (zc s.testBit k)) + (nI 0))), (3, .int ((nI k) + (nI 1)))] [] μ rfl trivial ?_
      rw [zn_add (zc s.testBit k) 0, zn_add k 1]
      have h9 := ih (k + 1) (by omega)
      rw [show zc s.testBit (k + 1) = zc s.testBit k + 0 from by show _ + _ = _; rw [hb]; rfl] at h9
      exact h9
    · have hb := zB_t h16
      refine zq_go zt_X9_many 2 [] 24 [(0, .ref 50), (1, .int (nI s)), (2, .int (nI (zc s.testBit k))), (3, .int (nI k))] [.int (nI 1), .int (nI (zc s.testBit k))] μ rfl trivial ?_
      refine zq_go zt_X9_many 4 [] 4 [(0, .ref 50), (1, .int (nI s)), (2, .int ((nI (zc s.testBit k)) + (nI 1))), (3, .int ((nI k) + (nI 1)))] [] μ rfl trivial ?_
      rw [zn_add (zc s.testBit k) 1, zn_add k 1]
      have h9 := ih (k + 1) (by omega)
      rw [show zc s.testBit (k + 1) = zc s.testBit k + 1 from by show _ + _ = _; rw [hb]; rfl] at h9
      exact h9
set_option maxRecDepth 100000 in
set_option maxHeartbeats 4000000 in
theorem zs_many {s : Nat} (hs : s < 2 ^ 31) (μ : zq_Me) : zq_Wp zn_X9_many 0 [(0, .ref 50), (1, .int (nI s))] [] μ (zq_pi (nI (zc s.testBit 24)) μ) := by
  refine zq_go zt_X9_many 4 [] 4 [(0, .ref 50), (1, .int (nI s)), (2, .int (nI 0)), (3, .int (nI 0))] [] μ rfl trivial ?_
  refine zs_many_l hs ?_ 24 0 (by omega)
  refine zq_go zt_X9_many 1 [] 33 [(2, .int (nI (zc s.testBit 24)))] [.int (nI (zc s.testBit 24))] μ rfl trivial ?_
  exact zq_retn zt_X9_many rfl rfl (⟨rfl, rfl⟩)
