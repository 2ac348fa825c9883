/-! ===== the class's search: fillStepsTo ===== -/
def zg_p (a : Nat → Nat → Bool) (t : Nat) : Nat → Nat → Bool
  | 0, _ => false
  | k + 1, x => zg_b a t k x
def zg_e (a : Nat → Nat → Bool) (t k x : Nat) : Bool := zg_b a t k x && !zg_p a t k x
/-- the least of the first j rooms at the edge that x is beside of (j: none) -/
def zg_w (a : Nat → Nat → Bool) (t k j x : Nat) : Nat := zf (fun y => zg_e a t k y && a y x) j
/-- where one at x goes, when the first j rooms of the edge have been looked at -/
def zg_f (a : Nat → Nat → Bool) (t k j x : Nat) : Nat := if zg_b a t k x = true then zg_n a t x else if zg_w a t k j x < j then zg_w a t k j x else x
def zg_nx (a : Nat → Nat → Bool) (t k j x : Nat) : Bool := !zg_b a t k x && decide (zg_w a t k j x < j)
def zg_bh (a : Nat → Nat → Bool) (t k j x : Nat) : Bool := zg_e a t k j && (a j x && !(zg_b a t k x || zg_nx a t k j x))
section ZS
variable {a : Nat → Nat → Bool} {t : Nat}
theorem zf_succ (p : Nat → Bool) (n : Nat) : zf p (n + 1) = if zf p n < n then zf p n else if p n = true then n else n + 1 := rfl
theorem zg_nx_succ (k j x : Nat) : zg_nx a t k (j + 1) x = (zg_nx a t k j x || zg_bh a t k j x) := by
  unfold zg_nx zg_bh zg_nx zg_w
  rw [zf_succ]
  have hl := zf_le (fun y => zg_e a t k y && a y x) j
  by_cases h : zf (fun y => zg_e a t k y && a y x) j < j
  · rw [if_pos h]
    have h2 : zf (fun y => zg_e a t k y && a y x) j < j + 1 := by omega
    simp [h, h2]
  · rw [if_neg h]
    cases he : zg_e a t k j <;> cases ha : a j x <;> cases hb : zg_b a t k x <;> simp [h]
theorem zg_f_succ (k j x : Nat) : zg_f a t k (j + 1) x = if zg_bh a t k j x = true then j else zg_f a t k j x := by
  unfold zg_f zg_bh zg_nx zg_w
  rw [zf_succ]
  have hl := zf_le (fun y => zg_e a t k y && a y x) j
  by_cases h : zf (fun y => zg_e a t k y && a y x) j < j
  · rw [if_pos h]
    have h2 : zf (fun y => zg_e a t k y && a y x) j < j + 1 := by omega
    cases hb : zg_b a t k x <;> simp [h, h2]
  · rw [if_neg h]
    cases he : zg_e a t k j <;> cases ha : a j x <;> cases hb : zg_b a t k x <;> simp [h]
theorem zg_e_w {k x : Nat} (hk : k < 7) (hb : zg_b a t k x = false) : zg_w a t k 8 x = zf (fun y => zg_b a t k y && a y x) 8 := by
  refine zf_congr (fun y hy => ?_)
  unfold zg_e
  cases hp : zg_p a t k y with
  | false => simp
  | true =>
    cases k with
    | zero => cases hp
    | succ k =>
      have hp : zg_b a t k y = true := hp
      cases ha : a y x with
      | false => simp
      | true => rw [zg_step hy hp ha] at hb; cases hb
theorem zg_nx_8 {k x : Nat} (hk : k < 7) (hx : x < 8) : (zg_b a t k x || zg_nx a t k 8 x) = zg_b a t (k + 1) x := by
  cases hb : zg_b a t k x with
  | true => rw [zg_up hb]; rfl
  | false =>
    unfold zg_nx
    rw [hb, zg_e_w hk hb]
    show _ = (zg_b a t k x || _)
    rw [hb]
    rfl
theorem zg_e_succ {k x : Nat} (hk : k < 7) (hx : x < 8) : zg_nx a t k 8 x = zg_e a t (k + 1) x := by
  unfold zg_e
  rw [← zg_nx_8 hk hx]
  show _ = ((_ || _) && !zg_b a t k x)
  unfold zg_nx
  cases hb : zg_b a t k x <;> simp
theorem zg_f_8 {k x : Nat} (hk : k < 7) (hx : x < 8) : zg_f a t k 8 x = if zg_b a t (k + 1) x = true then zg_n a t x else x := by
  unfold zg_f
  cases hb : zg_b a t k x with
  | true => rw [zg_up hb]; simp
  | false =>
    rw [if_neg (by decide)]
    by_cases h1 : zg_b a t (k + 1) x = true
    · rw [if_pos h1, (zg_new hk hb h1).2, zg_e_w hk hb]
      have h2 : zf (fun y => zg_b a t k y && a y x) 8 < 8 := by
        have h3 := h1
        unfold zg_b at h3
        rw [hb] at h3
        simpa using h3
      rw [if_pos h2]
    · rw [if_neg h1, if_neg]
      rw [zg_e_w hk hb]
      intro h2
      apply h1
      unfold zg_b
      simp [h2]
theorem zg_f_0 (k x : Nat) : zg_f a t k 0 x = if zg_b a t k x = true then zg_n a t x else x := by
  unfold zg_f
  rw [if_neg (Nat.not_lt_zero _)]
theorem zg_nx_0 (k x : Nat) : zg_nx a t k 0 x = false := by
  unfold zg_nx
  simp
/-- the end: the eighth round, or an edge that is empty -/
theorem zg_f_end {k x : Nat} (ht : t < 8) (hx : x < 8) (h : k = 7 ∨ ∀ y, y < 8 → zg_e a t k y = false) : (if zg_b a t k x = true then zg_n a t x else x) = zg_n a t x := by
  by_cases hb : zg_b a t k x = true
  · rw [if_pos hb]
  · rw [if_neg hb]
    have hb0 : zg_b a t k x = false := by simpa using hb
    symm
    apply zg_n_0
    right
    rcases h with rfl | h
    · exact zf_none (fun j hj => by
        cases h1 : zg_b a t j x with
        | false => rfl
        | true => rw [zg_le (show j ≤ 7 by omega) h1] at hb0; cases hb0)
    · cases k with
      | zero =>
        have := h t ht
        simp [zg_e, zg_b, zg_p] at this
      | succ k =>
        have hs : ∀ y, y < 8 → zg_b a t (k + 1) y = zg_b a t k y := by
          intro y hy
          have h1 := h y hy
          unfold zg_e at h1
          cases h2 : zg_b a t (k + 1) y with
          | true =>
            rw [h2] at h1
            have h3 : (!zg_b a t k y) = false := h1
            cases h4 : zg_b a t k y with
            | true => rfl
            | false => rw [h4] at h3; cases h3
          | false =>
            cases h4 : zg_b a t k y with
            | false => rfl
            | true => rw [zg_up h4] at h2; cases h2
        exact zg_out hx hs (by
          cases h4 : zg_b a t k x with
          | false => rfl
          | true => rw [zg_up h4] at hb0; cases hb0)
end ZS
theorem zm_and_not {b r n : Nat} (hb : b < 2 ^ 8) (hr : r < 2 ^ 8) (hn : n < 2 ^ 8) : nI b &&& ((nI r ||| nI n) ^^^ (-1)) = nI (zm (fun i => b.testBit i && !(r.testBit i || n.testBit i)) 8) := by
  rw [zn_or]
  have hc : r ||| n < 2 ^ 8 := zn_or_lt hr hn
  apply Int32.toBitVec_inj.mp
  rw [Int32.toBitVec_and, Int32.toBitVec_xor]
  show BitVec.ofNat 32 b &&& (BitVec.ofNat 32 (r ||| n) ^^^ (-1 : Int32).toBitVec) = BitVec.ofNat 32 (zm _ 8)
  rw [show (-1 : Int32).toBitVec = BitVec.allOnes 32 by decide]
  apply BitVec.eq_of_getLsbD_eq
  intro i hi
  simp only [BitVec.getLsbD_and, BitVec.getLsbD_xor, BitVec.getLsbD_ofNat, BitVec.getLsbD_allOnes, hi, decide_true, Bool.true_and, Nat.testBit_or, Bool.xor_true, zm_tb]
  by_cases h8 : i < 8
  · simp [h8]
  · have : b.testBit i = false := Nat.testBit_lt_two_pow (Nat.lt_of_lt_of_le hb (Nat.pow_le_pow_right (by decide) (by omega)))
    simp [h8, this]
set_option maxRecDepth 100000 in
set_option maxHeartbeats 4000000 in
theorem zs_fs38_a {Q : zq_Post} {fr t : Nat} (hfr : fr ≤ 512) (ht : t < 8) {μ0 : zq_Me} (kk : ∀ μ : zq_Me, (zq_fr [38] μ0 μ ∧ (∀ x, x < 8 → μ.1 38 (fr + x * 8 + t) = nI x) ∧ (∀ q, (∀ x, x < 8 → q ≠ fr + x * 8 + t) → μ.1 38 q = μ0.1 38 q)) → zq_Wp zn_X0_fillStepsTo 29 [(0, .ref 1), (1, .int (nI t)), (2, .ref 38), (3, .int (nI fr))] [] μ Q) : ∀ (j i : Nat) (μ : zq_Me), i + j = 8 → (zq_fr [38] μ0 μ ∧ (∀ x, x < i → μ.1 38 (fr + x * 8 + t) = nI x) ∧ (∀ q, (∀ x, x < 8 → q ≠ fr + x * 8 + t) → μ.1 38 q = μ0.1 38 q)) → zq_Wp zn_X0_fillStepsTo 3 [(0, .ref 1), (1, .int (nI t)), (2, .ref 38), (3, .int (nI fr)), (4, .int (nI i))] [] μ Q := by
  intro j
  induction j with
  | zero =>
    intro i μ hij hI
    obtain rfl : i = 8 := by omega
    refine zq_go zt_X0_fillStepsTo 3 [] (if (nI 8) ≤ (nI 8) then 29 else 10) [(0, .ref 1), (1, .int (nI t)), (2, .ref 38), (3, .int (nI fr)), (4, .int (nI 8))] [] μ rfl trivial ?_
    rw [if_pos (by rw [zn_le (by omega) (by omega)]; omega)]
    exact zq_drp [0, 1, 2, 3] [(0, .ref 1), (1, .int (nI t)), (2, .ref 38), (3, .int (nI fr))] rfl (kk μ hI)
  | succ j ih =>
    intro i μ hij hI
    refine zq_go zt_X0_fillStepsTo 3 [] (if (nI 8) ≤ (nI i) then 29 else 10) [(0, .ref 1), (1, .int (nI t)), (2, .ref 38), (3, .int (nI fr)), (4, .int (nI i))] [] μ rfl trivial ?_
    rw [if_neg (by rw [zn_le (by omega) (by omega)]; omega)]
    refine zq_go zt_X0_fillStepsTo 12 [vp_in (((nI fr) + ((nI i) * (nI 8))) + (nI t)) 576] 3 [(0, .ref 1), (1, .int (nI t)), (2, .ref 38), (3, .int (nI fr)), (4, .int ((nI i) + (nI 1)))] [] (zq_u1 μ 38 ((((nI fr) + ((nI i) * (nI 8))) + (nI t)).toNatClampNeg) (nI i)) rfl ⟨zn_in (k := (fr + (i * 8)) + t) (by rw [zn_mul i 8, zn_add fr (i * 8), zn_add (fr + (i * 8)) t]) (by omega) (by decide), trivial⟩ ?_
    rw [zn_add i 1, zn_mul i 8, zn_add fr (i * 8), zn_add (fr + (i * 8)) t, zn_cl (n := (fr + (i * 8)) + t) (by omega)]
    refine ih (i + 1) _ (by omega) ⟨hI.1.u1 (by simp), fun x hx => ?_, fun q hq => by rw [zq_u1_o2 (hq i (by omega))]; exact hI.2.2 q hq⟩
    rw [zq_u1_rd]
    split
    · rename_i h9
      obtain rfl : x = i := by omega
      rfl
    · exact hI.2.1 x (by omega)
set_option maxRecDepth 100000 in
set_option maxHeartbeats 4000000 in
theorem zs_fs38_c {Q : zq_Post} {fr t : Nat} (hfr : fr ≤ 512) (ht : t < 8) {bh y : Nat} (hb : bh < 2 ^ 31) (r e w n : Int32) {μ0 : zq_Me} (kk : ∀ μ : zq_Me, (zq_fr [38] μ0 μ ∧ (∀ x, x < 8 → μ.1 38 (fr + x * 8 + t) = if bh.testBit x = true then nI y else μ0.1 38 (fr + x * 8 + t)) ∧ (∀ q, (∀ x, x < 8 → q ≠ fr + x * 8 + t) → μ.1 38 q = μ0.1 38 q)) → zq_Wp zn_X0_fillStepsTo 148 [(0, .ref 1), (1, .int (nI t)), (2, .ref 38), (3, .int (nI fr)), (4, .int r), (5, .int e), (6, .int w), (7, .int n), (8, .int (nI y))] [] μ Q) : ∀ (j i : Nat) (μ : zq_Me), i + j = 8 → (zq_fr [38] μ0 μ ∧ (∀ x, x < 8 → μ.1 38 (fr + x * 8 + t) = if x < i ∧ bh.testBit x = true then nI y else μ0.1 38 (fr + x * 8 + t)) ∧ (∀ q, (∀ x, x < 8 → q ≠ fr + x * 8 + t) → μ.1 38 q = μ0.1 38 q)) → zq_Wp zn_X0_fillStepsTo 107 [(0, .ref 1), (1, .int (nI t)), (2, .ref 38), (3, .int (nI fr)), (4, .int r), (5, .int e), (6, .int w), (7, .int n), (8, .int (nI y)), (9, .int (nI bh)), (10, .int (nI i))] [] μ Q := by
  intro j
  induction j with
  | zero =>
    intro i μ hij hI
    obtain rfl : i = 8 := by omega
    refine zq_go zt_X0_fillStepsTo 3 [] (if (nI 8) ≤ (nI 8) then 148 else 114) [(0, .ref 1), (1, .int (nI t)), (2, .ref 38), (3, .int (nI fr)), (4, .int r), (5, .int e), (6, .int w), (7, .int n), (8, .int (nI y)), (9, .int (nI bh)), (10, .int (nI 8))] [] μ rfl trivial ?_
    rw [if_pos (by rw [zn_le (by omega) (by omega)]; omega)]
    exact zq_drp [0, 1, 2, 3, 4, 5, 6, 7, 8] [(0, .ref 1), (1, .int (nI t)), (2, .ref 38), (3, .int (nI fr)), (4, .int r), (5, .int e), (6, .int w), (7, .int n), (8, .int (nI y))] rfl (kk μ ⟨hI.1, fun x hx => by rw [hI.2.1 x hx]; simp [hx], hI.2.2⟩)
  | succ j ih =>
    intro i μ hij hI
    refine zq_go zt_X0_fillStepsTo 3 [] (if (nI 8) ≤ (nI i) then 148 else 114) [(0, .ref 1), (1, .int (nI t)), (2, .ref 38), (3, .int (nI fr)), (4, .int r), (5, .int e), (6, .int w), (7, .int n), (8, .int (nI y)), (9, .int (nI bh)), (10, .int (nI i))] [] μ rfl trivial ?_
    rw [if_neg (by rw [zn_le (by omega) (by omega)]; omega)]
    refine zq_go zt_X0_fillStepsTo 2 [] (if (nI bh) = 0 then 148 else 119) [(0, .ref 1), (1, .int (nI t)), (2, .ref 38), (3, .int (nI fr)), (4, .int r), (5, .int e), (6, .int w), (7, .int n), (8, .int (nI y)), (9, .int (nI bh)), (10, .int (nI i))] [] μ rfl trivial ?_
    refine zq_ite (fun h13 => ?_) (fun h13 => ?_)
    · have h9 : bh = 0 := by rwa [show (0 : Int32) = nI 0 from rfl, zn_eq hb (by decide)] at h13
      subst h9
      exact zq_drp [0, 1, 2, 3, 4, 5, 6, 7, 8] [(0, .ref 1), (1, .int (nI t)), (2, .ref 38), (3, .int (nI fr)), (4, .int r), (5, .int e), (6, .int w), (7, .int n), (8, .int (nI y))] rfl (kk μ ⟨hI.1, fun x hx => by rw [hI.2.1 x hx]; simp, hI.2.2⟩)
    · refine zq_go zt_X0_fillStepsTo 6 [] (if (((nI bh) >>> ((nI i) &&& 31)) &&& (nI 1)) = 0 then 142 else 129) [(0, .ref 1), (1, .int (nI t)), (2, .ref 38), (3, .int (nI fr)), (4, .int r), (5, .int e), (6, .int w), (7, .int n), (8, .int (nI y)), (9, .int (nI bh)), (10, .int (nI i))] [] μ rfl trivial ?_
      rw [zn_bit hb (by omega)]
      refine zq_ite (fun h19 => ?_) (fun h19 => ?_)
      · have hb9 : bh.testBit i = false := by
          cases hb9 : bh.testBit i with
          | false => rfl
          | true => rw [hb9] at h19; exact absurd h19 (by decide)
        refine zq_go zt_X0_fillStepsTo 2 [] 107 [(0, .ref 1), (1, .int (nI t)), (2, .ref 38), (3, .int (nI fr)), (4, .int r), (5, .int e), (6, .int w), (7, .int n), (8, .int (nI y)), (9, .int (nI bh)), (10, .int ((nI i) + (nI 1)))] [] μ rfl trivial ?_
        rw [zn_add i 1]
        refine ih (i + 1) μ (by omega) ⟨hI.1, fun x hx => ?_, hI.2.2⟩
        rw [hI.2.1 x hx]
        by_cases h8 : x = i
        · subst h8; simp [hb9]
        · have : (x < i + 1) ↔ (x < i) := by omega
          simp [this]
      · have hb9 : bh.testBit i = true := by
          cases hb9 : bh.testBit i with
          | true => rfl
          | false => rw [hb9] at h19; exact absurd rfl h19
        refine zq_go zt_X0_fillStepsTo 12 [vp_in (((nI fr) + ((nI i) * (nI 8))) + (nI t)) 576] 107 [(0, .ref 1), (1, .int (nI t)), (2, .ref 38), (3, .int (nI fr)), (4, .int r), (5, .int e), (6, .int w), (7, .int n), (8, .int (nI y)), (9, .int (nI bh)), (10, .int ((nI i) + (nI 1)))] [] (zq_u1 μ 38 ((((nI fr) + ((nI i) * (nI 8))) + (nI t)).toNatClampNeg) (nI y)) rfl ⟨zn_in (k := (fr + (i * 8)) + t) (by rw [zn_mul i 8, zn_add fr (i * 8), zn_add (fr + (i * 8)) t]) (by omega) (by decide), trivial⟩ ?_
        rw [zn_add i 1, zn_mul i 8, zn_add fr (i * 8), zn_add (fr + (i * 8)) t, zn_cl (n := (fr + (i * 8)) + t) (by omega)]
        refine ih (i + 1) _ (by omega) ⟨hI.1.u1 (by simp), fun x hx => ?_, fun q hq => by rw [zq_u1_o2 (hq i (by omega))]; exact hI.2.2 q hq⟩
        rw [zq_u1_rd]
        by_cases h8 : x = i
        · subst h8; rw [if_pos rfl, if_pos ⟨by omega, hb9⟩]
        · have : (x < i + 1) ↔ (x < i) := by omega
          rw [if_neg (by omega), hI.2.1 x hx]
          simp [this]
set_option maxRecDepth 100000 in
set_option maxHeartbeats 4000000 in
theorem zs_fs38_b {Q : zq_Post} {fr t : Nat} (hfr : fr ≤ 512) (ht : t < 8) {nd m : Nat} {o1 o2 : Nat → Nat} {k : Nat} (w : Int32) {μ0 : zq_Me} (hB0 : ∀ x, x < 8 → μ0.1 5 x = nI (zm ((zg_adj o1 o2 m nd) x) 8)) (kk : ∀ μ : zq_Me, (zq_fr [38] μ0 μ ∧ (∀ x, x < 8 → μ.1 38 (fr + x * 8 + t) = nI (zg_f (zg_adj o1 o2 m nd) t k 8 x)) ∧ (∀ q, (∀ x, x < 8 → q ≠ fr + x * 8 + t) → μ.1 38 q = μ0.1 38 q)) → zq_Wp zn_X0_fillStepsTo 154 [(0, .ref 1), (1, .int (nI t)), (2, .ref 38), (3, .int (nI fr)), (4, .int (nI (zm (zg_b (zg_adj o1 o2 m nd) t k) 8))), (5, .int (nI (zm (zg_e (zg_adj o1 o2 m nd) t k) 8))), (6, .int w), (7, .int (nI (zm (zg_nx (zg_adj o1 o2 m nd) t k 8) 8)))] [] μ Q) : ∀ (j y : Nat) (μ : zq_Me), y + j = 8 → (zq_fr [38] μ0 μ ∧ (∀ x, x < 8 → μ.1 38 (fr + x * 8 + t) = nI (zg_f (zg_adj o1 o2 m nd) t k y x)) ∧ (∀ q, (∀ x, x < 8 → q ≠ fr + x * 8 + t) → μ.1 38 q = μ0.1 38 q)) → zq_Wp zn_X0_fillStepsTo 59 [(0, .ref 1), (1, .int (nI t)), (2, .ref 38), (3, .int (nI fr)), (4, .int (nI (zm (zg_b (zg_adj o1 o2 m nd) t k) 8))), (5, .int (nI (zm (zg_e (zg_adj o1 o2 m nd) t k) 8))), (6, .int w), (7, .int (nI (zm (zg_nx (zg_adj o1 o2 m nd) t k y) 8))), (8, .int (nI y))] [] μ Q := by
  have l1 := zm_lt (zg_b (zg_adj o1 o2 m nd) t k) 8
  have l2 := zm_lt (zg_e (zg_adj o1 o2 m nd) t k) 8
  intro j
  induction j with
  | zero =>
    intro y μ hij hI
    obtain rfl : y = 8 := by omega
    refine zq_go zt_X0_fillStepsTo 3 [] (if (nI 8) ≤ (nI 8) then 154 else 66) [(0, .ref 1), (1, .int (nI t)), (2, .ref 38), (3, .int (nI fr)), (4, .int (nI (zm (zg_b (zg_adj o1 o2 m nd) t k) 8))), (5, .int (nI (zm (zg_e (zg_adj o1 o2 m nd) t k) 8))), (6, .int w), (7, .int (nI (zm (zg_nx (zg_adj o1 o2 m nd) t k 8) 8))), (8, .int (nI 8))] [] μ rfl trivial ?_
    rw [if_pos (by rw [zn_le (by omega) (by omega)]; omega)]
    exact zq_drp [0, 1, 2, 3, 4, 5, 6, 7] [(0, .ref 1), (1, .int (nI t)), (2, .ref 38), (3, .int (nI fr)), (4, .int (nI (zm (zg_b (zg_adj o1 o2 m nd) t k) 8))), (5, .int (nI (zm (zg_e (zg_adj o1 o2 m nd) t k) 8))), (6, .int w), (7, .int (nI (zm (zg_nx (zg_adj o1 o2 m nd) t k 8) 8)))] rfl (kk μ hI)
  | succ j ih =>
    intro y μ hij hI
    have l3 := zm_lt (zg_nx (zg_adj o1 o2 m nd) t k y) 8
    have hB : ∀ x, x < 8 → μ.1 5 x = nI (zm ((zg_adj o1 o2 m nd) x) 8) := fun x hx => by rw [hI.1.a (b := 5) (by decide)]; exact hB0 x hx
    refine zq_go zt_X0_fillStepsTo 3 [] (if (nI 8) ≤ (nI y) then 154 else 66) [(0, .ref 1), (1, .int (nI t)), (2, .ref 38), (3, .int (nI fr)), (4, .int (nI (zm (zg_b (zg_adj o1 o2 m nd) t k) 8))), (5, .int (nI (zm (zg_e (zg_adj o1 o2 m nd) t k) 8))), (6, .int w), (7, .int (nI (zm (zg_nx (zg_adj o1 o2 m nd) t k y) 8))), (8, .int (nI y))] [] μ rfl trivial ?_
    rw [if_neg (by rw [zn_le (by omega) (by omega)]; omega)]
    refine zq_go zt_X0_fillStepsTo 6 [] (if ¬ (((nI (zm (zg_e (zg_adj o1 o2 m nd) t k) 8)) >>> ((nI y) &&& 31)) &&& (nI 1)) = 0 then 80 else 76) [(0, .ref 1), (1, .int (nI t)), (2, .ref 38), (3, .int (nI fr)), (4, .int (nI (zm (zg_b (zg_adj o1 o2 m nd) t k) 8))), (5, .int (nI (zm (zg_e (zg_adj o1 o2 m nd) t k) 8))), (6, .int w), (7, .int (nI (zm (zg_nx (zg_adj o1 o2 m nd) t k y) 8))), (8, .int (nI y))] [] μ rfl trivial ?_
    rw [zn_bit (Nat.lt_trans l2 (by decide)) (by omega), zm_tb]
    refine zq_ite (fun h17 => ?_) (fun h17 => ?_)
    · have he : zg_e (zg_adj o1 o2 m nd) t k y = true := by
        cases he : zg_e (zg_adj o1 o2 m nd) t k y with
        | true => rfl
        | false => rw [he] at h17; simp at h17; exact absurd rfl h17
      refine zq_go zt_X0_fillStepsTo 10 [vp_in (nI y) 8] 95 [(0, .ref 1), (1, .int (nI t)), (2, .ref 38), (3, .int (nI fr)), (4, .int (nI (zm (zg_b (zg_adj o1 o2 m nd) t k) 8))), (5, .int (nI (zm (zg_e (zg_adj o1 o2 m nd) t k) 8))), (6, .int w), (7, .int (nI (zm (zg_nx (zg_adj o1 o2 m nd) t k y) 8))), (8, .int (nI y))] [.int ((μ.1 5 ((nI y).toNatClampNeg)) &&& (((nI (zm (zg_b (zg_adj o1 o2 m nd) t k) 8)) ||| (nI (zm (zg_nx (zg_adj o1 o2 m nd) t k y) 8))) ^^^ (-1)))] μ rfl ⟨zn_in (k := y) rfl (by omega) (by decide), trivial⟩ ?_
      rw [zn_cl (n := y) (by omega), hB y (by omega)]
      rw [zm_and_not (zm_lt _ 8) l1 l3, show zm (fun i => (zm ((zg_adj o1 o2 m nd) y) 8).testBit i && !((zm (zg_b (zg_adj o1 o2 m nd) t k) 8).testBit i || (zm (zg_nx (zg_adj o1 o2 m nd) t k y) 8).testBit i)) 8 = zm (zg_bh (zg_adj o1 o2 m nd) t k y) 8 from zm_congr (fun i hi => by
        rw [zm_tb, zm_tb, zm_tb]
        unfold zg_bh
        rw [he]
        simp [hi])]
      refine zq_go zt_X0_fillStepsTo 7 [] 107 [(0, .ref 1), (1, .int (nI t)), (2, .ref 38), (3, .int (nI fr)), (4, .int (nI (zm (zg_b (zg_adj o1 o2 m nd) t k) 8))), (5, .int (nI (zm (zg_e (zg_adj o1 o2 m nd) t k) 8))), (6, .int w), (7, .int ((nI (zm (zg_nx (zg_adj o1 o2 m nd) t k y) 8)) ||| (nI (zm (zg_bh (zg_adj o1 o2 m nd) t k y) 8)))), (8, .int (nI y)), (9, .int (nI (zm (zg_bh (zg_adj o1 o2 m nd) t k y) 8))), (10, .int (nI 0))] [] μ rfl trivial ?_
      rw [zn_or, show zm (zg_nx (zg_adj o1 o2 m nd) t k y) 8 ||| zm (zg_bh (zg_adj o1 o2 m nd) t k y) 8 = zm (zg_nx (zg_adj o1 o2 m nd) t k (y + 1)) 8 from by
        apply Nat.eq_of_testBit_eq
        intro i
        rw [Nat.testBit_or, zm_tb, zm_tb, zm_tb, zg_nx_succ]
        cases decide (i < 8) <;> simp]
      refine zs_fs38_c hfr ht (Nat.lt_trans (zm_lt _ 8) (by decide)) _ _ _ _ (fun μ1 hJ => ?_) 8 0 μ (by omega) ⟨zq_fr.rf, fun x hx => by simp, fun _ _ => rfl⟩
      refine zq_go zt_X0_fillStepsTo 2 [] 59 [(0, .ref 1), (1, .int (nI t)), (2, .ref 38), (3, .int (nI fr)), (4, .int (nI (zm (zg_b (zg_adj o1 o2 m nd) t k) 8))), (5, .int (nI (zm (zg_e (zg_adj o1 o2 m nd) t k) 8))), (6, .int w), (7, .int (nI (zm (zg_nx (zg_adj o1 o2 m nd) t k (y + 1)) 8))), (8, .int ((nI y) + (nI 1)))] [] μ1 rfl trivial ?_
      rw [zn_add y 1]
      refine ih (y + 1) μ1 (by omega) ⟨hI.1.tr hJ.1, fun x hx => ?_, fun q hq => (hJ.2.2 q hq).trans (hI.2.2 q hq)⟩
      rw [hJ.2.1 x hx, hI.2.1 x hx, zm_tb, zg_f_succ]
      simp only [hx, decide_true, Bool.true_and]
      split <;> rfl
    · have he : zg_e (zg_adj o1 o2 m nd) t k y = false := by
        cases he : zg_e (zg_adj o1 o2 m nd) t k y with
        | false => rfl
        | true => rw [he] at h17; simp [show y < 8 by omega] at h17; exact absurd h17 (by decide)
      refine zq_go zt_X0_fillStepsTo 2 [] 95 [(0, .ref 1), (1, .int (nI t)), (2, .ref 38), (3, .int (nI fr)), (4, .int (nI (zm (zg_b (zg_adj o1 o2 m nd) t k) 8))), (5, .int (nI (zm (zg_e (zg_adj o1 o2 m nd) t k) 8))), (6, .int w), (7, .int (nI (zm (zg_nx (zg_adj o1 o2 m nd) t k y) 8))), (8, .int (nI y))] [.int (nI 0)] μ rfl trivial ?_
      rw [show nI 0 = nI (zm (zg_bh (zg_adj o1 o2 m nd) t k y) 8) from by rw [zm_0.mpr (fun i _ => by unfold zg_bh; rw [he]; rfl)]]
      refine zq_go zt_X0_fillStepsTo 7 [] 107 [(0, .ref 1), (1, .int (nI t)), (2, .ref 38), (3, .int (nI fr)), (4, .int (nI (zm (zg_b (zg_adj o1 o2 m nd) t k) 8))), (5, .int (nI (zm (zg_e (zg_adj o1 o2 m nd) t k) 8))), (6, .int w), (7, .int ((nI (zm (zg_nx (zg_adj o1 o2 m nd) t k y) 8)) ||| (nI (zm (zg_bh (zg_adj o1 o2 m nd) t k y) 8)))), (8, .int (nI y)), (9, .int (nI (zm (zg_bh (zg_adj o1 o2 m nd) t k y) 8))), (10, .int (nI 0))] [] μ rfl trivial ?_
      rw [zn_or, show zm (zg_nx (zg_adj o1 o2 m nd) t k y) 8 ||| zm (zg_bh (zg_adj o1 o2 m nd) t k y) 8 = zm (zg_nx (zg_adj o1 o2 m nd) t k (y + 1)) 8 from by
        apply Nat.eq_of_testBit_eq
        intro i
        rw [Nat.testBit_or, zm_tb, zm_tb, zm_tb, zg_nx_succ]
        cases decide (i < 8) <;> simp]
      refine zs_fs38_c hfr ht (Nat.lt_trans (zm_lt _ 8) (by decide)) _ _ _ _ (fun μ1 hJ => ?_) 8 0 μ (by omega) ⟨zq_fr.rf, fun x hx => by simp, fun _ _ => rfl⟩
      refine zq_go zt_X0_fillStepsTo 2 [] 59 [(0, .ref 1), (1, .int (nI t)), (2, .ref 38), (3, .int (nI fr)), (4, .int (nI (zm (zg_b (zg_adj o1 o2 m nd) t k) 8))), (5, .int (nI (zm (zg_e (zg_adj o1 o2 m nd) t k) 8))), (6, .int w), (7, .int (nI (zm (zg_nx (zg_adj o1 o2 m nd) t k (y + 1)) 8))), (8, .int ((nI y) + (nI 1)))] [] μ1 rfl trivial ?_
      rw [zn_add y 1]
      refine ih (y + 1) μ1 (by omega) ⟨hI.1.tr hJ.1, fun x hx => ?_, fun q hq => (hJ.2.2 q hq).trans (hI.2.2 q hq)⟩
      rw [hJ.2.1 x hx, hI.2.1 x hx, zm_tb, zg_f_succ]
      simp only [hx, decide_true, Bool.true_and]
      split <;> rfl
set_option maxRecDepth 100000 in
set_option maxHeartbeats 4000000 in
theorem zs_fs38_d {Q : zq_Post} {fr t : Nat} (hfr : fr ≤ 512) (ht : t < 8) {nd m : Nat} {o1 o2 : Nat → Nat} {μ0 : zq_Me} (hB0 : ∀ x, x < 8 → μ0.1 5 x = nI (zm ((zg_adj o1 o2 m nd) x) 8)) (kk : ∀ μ : zq_Me, (zq_fr [38] μ0 μ ∧ (∀ x, x < 8 → μ.1 38 (fr + x * 8 + t) = nI (zg_n (zg_adj o1 o2 m nd) t x)) ∧ (∀ q, (∀ x, x < 8 → q ≠ fr + x * 8 + t) → μ.1 38 q = μ0.1 38 q)) → zq_Wp zn_X0_fillStepsTo 171 [] [] μ Q) : ∀ (j k : Nat) (μ : zq_Me), k + j = 7 → (zq_fr [38] μ0 μ ∧ (∀ x, x < 8 → μ.1 38 (fr + x * 8 + t) = nI (if zg_b (zg_adj o1 o2 m nd) t k x = true then zg_n (zg_adj o1 o2 m nd) t x else x)) ∧ (∀ q, (∀ x, x < 8 → q ≠ fr + x * 8 + t) → μ.1 38 q = μ0.1 38 q)) → zq_Wp zn_X0_fillStepsTo 41 [(0, .ref 1), (1, .int (nI t)), (2, .ref 38), (3, .int (nI fr)), (4, .int (nI (zm (zg_b (zg_adj o1 o2 m nd) t k) 8))), (5, .int (nI (zm (zg_e (zg_adj o1 o2 m nd) t k) 8))), (6, .int (nI (k + 1)))] [] μ Q := by
  intro j
  induction j with
  | zero =>
    intro k μ hij hI
    obtain rfl : k = 7 := by omega
    refine zq_go zt_X0_fillStepsTo 3 [] (if (nI 8) ≤ (nI 8) then 171 else 48) [(0, .ref 1), (1, .int (nI t)), (2, .ref 38), (3, .int (nI fr)), (4, .int (nI (zm (zg_b (zg_adj o1 o2 m nd) t 7) 8))), (5, .int (nI (zm (zg_e (zg_adj o1 o2 m nd) t 7) 8))), (6, .int (nI 8))] [] μ rfl trivial ?_
    rw [if_pos (by rw [zn_le (by omega) (by omega)]; omega)]
    exact zq_drp [] [] rfl (kk μ ⟨hI.1, fun x hx => by rw [hI.2.1 x hx, zg_f_end ht hx (Or.inl rfl)], hI.2.2⟩)
  | succ j ih =>
    intro k μ hij hI
    have l2 := zm_lt (zg_e (zg_adj o1 o2 m nd) t k) 8
    refine zq_go zt_X0_fillStepsTo 3 [] (if (nI 8) ≤ (nI (k + 1)) then 171 else 48) [(0, .ref 1), (1, .int (nI t)), (2, .ref 38), (3, .int (nI fr)), (4, .int (nI (zm (zg_b (zg_adj o1 o2 m nd) t k) 8))), (5, .int (nI (zm (zg_e (zg_adj o1 o2 m nd) t k) 8))), (6, .int (nI (k + 1)))] [] μ rfl trivial ?_
    rw [if_neg (by rw [zn_le (by omega) (by omega)]; omega)]
    refine zq_go zt_X0_fillStepsTo 2 [] (if (nI (zm (zg_e (zg_adj o1 o2 m nd) t k) 8)) = 0 then 171 else 53) [(0, .ref 1), (1, .int (nI t)), (2, .ref 38), (3, .int (nI fr)), (4, .int (nI (zm (zg_b (zg_adj o1 o2 m nd) t k) 8))), (5, .int (nI (zm (zg_e (zg_adj o1 o2 m nd) t k) 8))), (6, .int (nI (k + 1)))] [] μ rfl trivial ?_
    refine zq_ite (fun h14 => ?_) (fun h14 => ?_)
    · have h9 : zm (zg_e (zg_adj o1 o2 m nd) t k) 8 = 0 := by rwa [show (0 : Int32) = nI 0 from rfl, zn_eq (Nat.lt_trans l2 (by decide)) (by decide)] at h14
      exact zq_drp [] [] rfl (kk μ ⟨hI.1, fun x hx => by rw [hI.2.1 x hx, zg_f_end ht hx (Or.inr (zm_0.mp h9))], hI.2.2⟩)
    · refine zq_go zt_X0_fillStepsTo 4 [] 59 [(0, .ref 1), (1, .int (nI t)), (2, .ref 38), (3, .int (nI fr)), (4, .int (nI (zm (zg_b (zg_adj o1 o2 m nd) t k) 8))), (5, .int (nI (zm (zg_e (zg_adj o1 o2 m nd) t k) 8))), (6, .int (nI (k + 1))), (7, .int (nI 0)), (8, .int (nI 0))] [] μ rfl trivial ?_
      have e0 : zm (zg_nx (zg_adj o1 o2 m nd) t k 0) 8 = 0 := zm_0.mpr (fun i _ => zg_nx_0 k i)
      refine zs_fs38_b hfr ht (nI (k + 1)) (fun x hx => by rw [hI.1.a (b := 5) (by decide)]; exact hB0 x hx) (fun μ1 hJ => ?_) 8 0 μ (by omega) ⟨zq_fr.rf, fun x hx => by rw [hI.2.1 x hx, zg_f_0], fun _ _ => rfl⟩ |> (fun h => by rw [e0] at h; exact h)
      refine zq_go zt_X0_fillStepsTo 8 [] 41 [(0, .ref 1), (1, .int (nI t)), (2, .ref 38), (3, .int (nI fr)), (4, .int ((nI (zm (zg_b (zg_adj o1 o2 m nd) t k) 8)) ||| (nI (zm (zg_nx (zg_adj o1 o2 m nd) t k 8) 8)))), (5, .int (nI (zm (zg_nx (zg_adj o1 o2 m nd) t k 8) 8))), (6, .int ((nI (k + 1)) + (nI 1))), (7, .int (nI (zm (zg_nx (zg_adj o1 o2 m nd) t k 8) 8)))] [] μ1 rfl trivial ?_
      rw [zn_add (k + 1) 1]
      rw [zn_or, show zm (zg_b (zg_adj o1 o2 m nd) t k) 8 ||| zm (zg_nx (zg_adj o1 o2 m nd) t k 8) 8 = zm (zg_b (zg_adj o1 o2 m nd) t (k + 1)) 8 from by
        apply Nat.eq_of_testBit_eq
        intro i
        rw [Nat.testBit_or, zm_tb, zm_tb, zm_tb]
        by_cases hi : i < 8
        · rw [← zg_nx_8 (by omega) hi]; simp [hi]
        · simp [hi], show zm (zg_nx (zg_adj o1 o2 m nd) t k 8) 8 = zm (zg_e (zg_adj o1 o2 m nd) t (k + 1)) 8 from zm_congr (fun i hi => zg_e_succ (by omega) hi)]
      exact zq_drp [0, 1, 2, 3, 4, 5, 6] [(0, .ref 1), (1, .int (nI t)), (2, .ref 38), (3, .int (nI fr)), (4, .int (nI (zm (zg_b (zg_adj o1 o2 m nd) t (k + 1)) 8))), (5, .int (nI (zm (zg_e (zg_adj o1 o2 m nd) t (k + 1)) 8))), (6, .int (nI (k + 1 + 1)))] rfl (ih (k + 1) μ1 (by omega) ⟨hI.1.tr hJ.1, fun x hx => by rw [hJ.2.1 x hx, zg_f_8 (by omega) hx], fun q hq => (hJ.2.2 q hq).trans (hI.2.2 q hq)⟩)
set_option maxRecDepth 100000 in
set_option maxHeartbeats 4000000 in
theorem zs_fs38 {fr t : Nat} (hfr : fr ≤ 512) (ht : t < 8) {nd m : Nat} {o1 o2 : Nat → Nat} {μ : zq_Me} (hB0 : ∀ x, x < 8 → μ.1 5 x = nI (zm ((zg_adj o1 o2 m nd) x) 8)) : zq_Wp zn_X0_fillStepsTo 0 [(0, .ref 1), (1, .int (nI t)), (2, .ref 38), (3, .int (nI fr))] [] μ (fun r μ' => r = none ∧ zq_fr [38] μ μ' ∧ (∀ x, x < 8 → μ'.1 38 (fr + x * 8 + t) = nI (zg_n (zg_adj o1 o2 m nd) t x)) ∧ ∀ q, (∀ x, x < 8 → q ≠ fr + x * 8 + t) → μ'.1 38 q = μ.1 38 q) := by
  refine zq_go zt_X0_fillStepsTo 2 [] 3 [(0, .ref 1), (1, .int (nI t)), (2, .ref 38), (3, .int (nI fr)), (4, .int (nI 0))] [] μ rfl trivial ?_
  refine zs_fs38_a hfr ht (fun μ1 hI => ?_) 8 0 μ (by omega) ⟨zq_fr.rf, fun x hx => absurd hx (Nat.not_lt_zero x), fun _ _ => rfl⟩
  refine zq_go zt_X0_fillStepsTo 8 [] 41 [(0, .ref 1), (1, .int (nI t)), (2, .ref 38), (3, .int (nI fr)), (4, .int ((nI 1) <<< ((nI t) &&& 31))), (5, .int ((nI 1) <<< ((nI t) &&& 31))), (6, .int (nI 1))] [] μ1 rfl trivial ?_
  rw [zn_1shl (k := t) (by omega)]
  have e1 : 2 ^ t = zm (zg_b (zg_adj o1 o2 m nd) t 0) 8 := by
    apply Nat.eq_of_testBit_eq
    intro i
    rw [Nat.testBit_two_pow, zm_tb]
    by_cases h : t = i
    · subst h; simp [zg_b, ht]
    · simp [zg_b, h, Ne.symm h]
  have e2 : zm (zg_b (zg_adj o1 o2 m nd) t 0) 8 = zm (zg_e (zg_adj o1 o2 m nd) t 0) 8 := zm_congr (fun i _ => by simp [zg_e, zg_p])
  refine zs_fs38_d hfr ht (fun x hx => by rw [hI.1.a (b := 5) (by decide)]; exact hB0 x hx) (fun μ2 hJ => ?_) 7 0 μ1 (by omega) ⟨zq_fr.rf, fun x hx => ?_, fun _ _ => rfl⟩ |> (fun h => by rw [← e2, ← e1] at h; exact h)
  · exact zq_retn zt_X0_fillStepsTo rfl rfl ⟨rfl, hI.1.tr hJ.1, hJ.2.1, fun q hq => (hJ.2.2 q hq).trans (hI.2.2 q hq)⟩
  · rw [hI.2.1 x hx]
    by_cases h : zg_b (zg_adj o1 o2 m nd) t 0 x = true
    · rw [if_pos h]
      have hx9 : x = t := by simpa [zg_b] using h
      rw [hx9, zg_n_0 (Or.inl (zg_d0 t))]
    · rw [if_neg h]
set_option maxRecDepth 100000 in
set_option maxHeartbeats 4000000 in
theorem zs_fs45_a {Q : zq_Post} {fr t : Nat} (hfr : fr ≤ 512) (ht : t < 8) {μ0 : zq_Me} (kk : ∀ μ : zq_Me, (zq_fr [45] μ0 μ ∧ (∀ x, x < 8 → μ.1 45 (fr + x * 8 + t) = nI x) ∧ (∀ q, (∀ x, x < 8 → q ≠ fr + x * 8 + t) → μ.1 45 q = μ0.1 45 q)) → zq_Wp zn_X0_fillStepsTo 29 [(0, .ref 1), (1, .int (nI t)), (2, .ref 45), (3, .int (nI fr))] [] μ Q) : ∀ (j i : Nat) (μ : zq_Me), i + j = 8 → (zq_fr [45] μ0 μ ∧ (∀ x, x < i → μ.1 45 (fr + x * 8 + t) = nI x) ∧ (∀ q, (∀ x, x < 8 → q ≠ fr + x * 8 + t) → μ.1 45 q = μ0.1 45 q)) → zq_Wp zn_X0_fillStepsTo 3 [(0, .ref 1), (1, .int (nI t)), (2, .ref 45), (3, .int (nI fr)), (4, .int (nI i))] [] μ Q := by
  intro j
  induction j with
  | zero =>
    intro i μ hij hI
    obtain rfl : i = 8 := by omega
    refine zq_go zt_X0_fillStepsTo 3 [] (if (nI 8) ≤ (nI 8) then 29 else 10) [(0, .ref 1), (1, .int (nI t)), (2, .ref 45), (3, .int (nI fr)), (4, .int (nI 8))] [] μ rfl trivial ?_
    rw [if_pos (by rw [zn_le (by omega) (by omega)]; omega)]
    exact zq_drp [0, 1, 2, 3] [(0, .ref 1), (1, .int (nI t)), (2, .ref 45), (3, .int (nI fr))] rfl (kk μ hI)
  | succ j ih =>
    intro i μ hij hI
    refine zq_go zt_X0_fillStepsTo 3 [] (if (nI 8) ≤ (nI i) then 29 else 10) [(0, .ref 1), (1, .int (nI t)), (2, .ref 45), (3, .int (nI fr)), (4, .int (nI i))] [] μ rfl trivial ?_
    rw [if_neg (by rw [zn_le (by omega) (by omega)]; omega)]
    refine zq_go zt_X0_fillStepsTo 12 [vp_in (((nI fr) + ((nI i) * (nI 8))) + (nI t)) 576] 3 [(0, .ref 1), (1, .int (nI t)), (2, .ref 45), (3, .int (nI fr)), (4, .int ((nI i) + (nI 1)))] [] (zq_u1 μ 45 ((((nI fr) + ((nI i) * (nI 8))) + (nI t)).toNatClampNeg) (nI i)) rfl ⟨zn_in (k := (fr + (i * 8)) + t) (by rw [zn_mul i 8, zn_add fr (i * 8), zn_add (fr + (i * 8)) t]) (by omega) (by decide), trivial⟩ ?_
    rw [zn_add i 1, zn_mul i 8, zn_add fr (i * 8), zn_add (fr + (i * 8)) t, zn_cl (n := (fr + (i * 8)) + t) (by omega)]
    refine ih (i + 1) _ (by omega) ⟨hI.1.u1 (by simp), fun x hx => ?_, fun q hq => by rw [zq_u1_o2 (hq i (by omega))]; exact hI.2.2 q hq⟩
    rw [zq_u1_rd]
    split
    · rename_i h9
      obtain rfl : x = i := by omega
      rfl
    · exact hI.2.1 x (by omega)
set_option maxRecDepth 100000 in
set_option maxHeartbeats 4000000 in
theorem zs_fs45_c {Q : zq_Post} {fr t : Nat} (hfr : fr ≤ 512) (ht : t < 8) {bh y : Nat} (hb : bh < 2 ^ 31) (r e w n : Int32) {μ0 : zq_Me} (kk : ∀ μ : zq_Me, (zq_fr [45] μ0 μ ∧ (∀ x, x < 8 → μ.1 45 (fr + x * 8 + t) = if bh.testBit x = true then nI y else μ0.1 45 (fr + x * 8 + t)) ∧ (∀ q, (∀ x, x < 8 → q ≠ fr + x * 8 + t) → μ.1 45 q = μ0.1 45 q)) → zq_Wp zn_X0_fillStepsTo 148 [(0, .ref 1), (1, .int (nI t)), (2, .ref 45), (3, .int (nI fr)), (4, .int r), (5, .int e), (6, .int w), (7, .int n), (8, .int (nI y))] [] μ Q) : ∀ (j i : Nat) (μ : zq_Me), i + j = 8 → (zq_fr [45] μ0 μ ∧ (∀ x, x < 8 → μ.1 45 (fr + x * 8 + t) = if x < i ∧ bh.testBit x = true then nI y else μ0.1 45 (fr + x * 8 + t)) ∧ (∀ q, (∀ x, x < 8 → q ≠ fr + x * 8 + t) → μ.1 45 q = μ0.1 45 q)) → zq_Wp zn_X0_fillStepsTo 107 [(0, .ref 1), (1, .int (nI t)), (2, .ref 45), (3, .int (nI fr)), (4, .int r), (5, .int e), (6, .int w), (7, .int n), (8, .int (nI y)), (9, .int (nI bh)), (10, .int (nI i))] [] μ Q := by
  intro j
  induction j with
  | zero =>
    intro i μ hij hI
    obtain rfl : i = 8 := by omega
    refine zq_go zt_X0_fillStepsTo 3 [] (if (nI 8) ≤ (nI 8) then 148 else 114) [(0, .ref 1), (1, .int (nI t)), (2, .ref 45), (3, .int (nI fr)), (4, .int r), (5, .int e), (6, .int w), (7, .int n), (8, .int (nI y)), (9, .int (nI bh)), (10, .int (nI 8))] [] μ rfl trivial ?_
    rw [if_pos (by rw [zn_le (by omega) (by omega)]; omega)]
    exact zq_drp [0, 1, 2, 3, 4, 5, 6, 7, 8] [(0, .ref 1), (1, .int (nI t)), (2, .ref 45), (3, .int (nI fr)), (4, .int r), (5, .int e), (6, .int w), (7, .int n), (8, .int (nI y))] rfl (kk μ ⟨hI.1, fun x hx => by rw [hI.2.1 x hx]; simp [hx], hI.2.2⟩)
  | succ j ih =>
    intro i μ hij hI
    refine zq_go zt_X0_fillStepsTo 3 [] (if (nI 8) ≤ (nI i) then 148 else 114) [(0, .ref 1), (1, .int (nI t)), (2, .ref 45), (3, .int (nI fr)), (4, .int r), (5, .int e), (6, .int w), (7, .int n), (8, .int (nI y)), (9, .int (nI bh)), (10, .int (nI i))] [] μ rfl trivial ?_
    rw [if_neg (by rw [zn_le (by omega) (by omega)]; omega)]
    refine zq_go zt_X0_fillStepsTo 2 [] (if (nI bh) = 0 then 148 else 119) [(0, .ref 1), (1, .int (nI t)), (2, .ref 45), (3, .int (nI fr)), (4, .int r), (5, .int e), (6, .int w), (7, .int n), (8, .int (nI y)), (9, .int (nI bh)), (10, .int (nI i))] [] μ rfl trivial ?_
    refine zq_ite (fun h13 => ?_) (fun h13 => ?_)
    · have h9 : bh = 0 := by rwa [show (0 : Int32) = nI 0 from rfl, zn_eq hb (by decide)] at h13
      subst h9
      exact zq_drp [0, 1, 2, 3, 4, 5, 6, 7, 8] [(0, .ref 1), (1, .int (nI t)), (2, .ref 45), (3, .int (nI fr)), (4, .int r), (5, .int e), (6, .int w), (7, .int n), (8, .int (nI y))] rfl (kk μ ⟨hI.1, fun x hx => by rw [hI.2.1 x hx]; simp, hI.2.2⟩)
    · refine zq_go zt_X0_fillStepsTo 6 [] (if (((nI bh) >>> ((nI i) &&& 31)) &&& (nI 1)) = 0 then 142 else 129) [(0, .ref 1), (1, .int (nI t)), (2, .ref 45), (3, .int (nI fr)), (4, .int r), (5, .int e), (6, .int w), (7, .int n), (8, .int (nI y)), (9, .int (nI bh)), (10, .int (nI i))] [] μ rfl trivial ?_
      rw [zn_bit hb (by omega)]
      refine zq_ite (fun h19 => ?_) (fun h19 => ?_)
      · have hb9 : bh.testBit i = false := by
          cases hb9 : bh.testBit i with
          | false => rfl
          | true => rw [hb9] at h19; exact absurd h19 (by decide)
        refine zq_go zt_X0_fillStepsTo 2 [] 107 [(0, .ref 1), (1, .int (nI t)), (2, .ref 45), (3, .int (nI fr)), (4, .int r), (5, .int e), (6, .int w), (7, .int n), (8, .int (nI y)), (9, .int (nI bh)), (10, .int ((nI i) + (nI 1)))] [] μ rfl trivial ?_
        rw [zn_add i 1]
        refine ih (i + 1) μ (by omega) ⟨hI.1, fun x hx => ?_, hI.2.2⟩
        rw [hI.2.1 x hx]
        by_cases h8 : x = i
        · subst h8; simp [hb9]
        · have : (x < i + 1) ↔ (x < i) := by omega
          simp [this]
      · have hb9 : bh.testBit i = true := by
          cases hb9 : bh.testBit i with
          | true => rfl
          | false => rw [hb9] at h19; exact absurd rfl h19
        refine zq_go zt_X0_fillStepsTo 12 [vp_in (((nI fr) + ((nI i) * (nI 8))) + (nI t)) 576] 107 [(0, .ref 1), (1, .int (nI t)), (2, .ref 45), (3, .int (nI fr)), (4, .int r), (5, .int e), (6, .int w), (7, .int n), (8, .int (nI y)), (9, .int (nI bh)), (10, .int ((nI i) + (nI 1)))] [] (zq_u1 μ 45 ((((nI fr) + ((nI i) * (nI 8))) + (nI t)).toNatClampNeg) (nI y)) rfl ⟨zn_in (k := (fr + (i * 8)) + t) (by rw [zn_mul i 8, zn_add fr (i * 8), zn_add (fr + (i * 8)) t]) (by omega) (by decide), trivial⟩ ?_
        rw [zn_add i 1, zn_mul i 8, zn_add fr (i * 8), zn_add (fr + (i * 8)) t, zn_cl (n := (fr + (i * 8)) + t) (by omega)]
        refine ih (i + 1) _ (by omega) ⟨hI.1.u1 (by simp), fun x hx => ?_, fun q hq => by rw [zq_u1_o2 (hq i (by omega))]; exact hI.2.2 q hq⟩
        rw [zq_u1_rd]
        by_cases h8 : x = i
        · subst h8; rw [if_pos rfl, if_pos ⟨by omega, hb9⟩]
        · have : (x < i + 1) ↔ (x < i) := by omega
          rw [if_neg (by omega), hI.2.1 x hx]
          simp [this]
set_option maxRecDepth 100000 in
set_option maxHeartbeats 4000000 in
theorem zs_fs45_b {Q : zq_Post} {fr t : Nat} (hfr : fr ≤ 512) (ht : t < 8) {nd m : Nat} {o1 o2 : Nat → Nat} {k : Nat} (w : Int32) {μ0 : zq_Me} (hB0 : ∀ x, x < 8 → μ0.1 5 x = nI (zm ((zg_adj o1 o2 m nd) x) 8)) (kk : ∀ μ : zq_Me, (zq_fr [45] μ0 μ ∧ (∀ x, x < 8 → μ.1 45 (fr + x * 8 + t) = nI (zg_f (zg_adj o1 o2 m nd) t k 8 x)) ∧ (∀ q, (∀ x, x < 8 → q ≠ fr + x * 8 + t) → μ.1 45 q = μ0.1 45 q)) → zq_Wp zn_X0_fillStepsTo 154 [(0, .ref 1), (1, .int (nI t)), (2, .ref 45), (3, .int (nI fr)), (4, .int (nI (zm (zg_b (zg_adj o1 o2 m nd) t k) 8))), (5, .int (nI (zm (zg_e (zg_adj o1 o2 m nd) t k) 8))), (6, .int w), (7, .int (nI (zm (zg_nx (zg_adj o1 o2 m nd) t k 8) 8)))] [] μ Q) : ∀ (j y : Nat) (μ : zq_Me), y + j = 8 → (zq_fr [45] μ0 μ ∧ (∀ x, x < 8 → μ.1 45 (fr + x * 8 + t) = nI (zg_f (zg_adj o1 o2 m nd) t k y x)) ∧ (∀ q, (∀ x, x < 8 → q ≠ fr + x * 8 + t) → μ.1 45 q = μ0.1 45 q)) → zq_Wp zn_X0_fillStepsTo 59 [(0, .ref 1), (1, .int (nI t)), (2, .ref 45), (3, .int (nI fr)), (4, .int (nI (zm (zg_b (zg_adj o1 o2 m nd) t k) 8))), (5, .int (nI (zm (zg_e (zg_adj o1 o2 m nd) t k) 8))), (6, .int w), (7, .int (nI (zm (zg_nx (zg_adj o1 o2 m nd) t k y) 8))), (8, .int (nI y))] [] μ Q := by
  have l1 := zm_lt (zg_b (zg_adj o1 o2 m nd) t k) 8
  have l2 := zm_lt (zg_e (zg_adj o1 o2 m nd) t k) 8
  intro j
  induction j with
  | zero =>
    intro y μ hij hI
    obtain rfl : y = 8 := by omega
    refine zq_go zt_X0_fillStepsTo 3 [] (if (nI 8) ≤ (nI 8) then 154 else 66) [(0, .ref 1), (1, .int (nI t)), (2, .ref 45), (3, .int (nI fr)), (4, .int (nI (zm (zg_b (zg_adj o1 o2 m nd) t k) 8))), (5, .int (nI (zm (zg_e (zg_adj o1 o2 m nd) t k) 8))), (6, .int w), (7, .int (nI (zm (zg_nx (zg_adj o1 o2 m nd) t k 8) 8))), (8, .int (nI 8))] [] μ rfl trivial ?_
    rw [if_pos (by rw [zn_le (by omega) (by omega)]; omega)]
    exact zq_drp [0, 1, 2, 3, 4, 5, 6, 7] [(0, .ref 1), (1, .int (nI t)), (2, .ref 45), (3, .int (nI fr)), (4, .int (nI (zm (zg_b (zg_adj o1 o2 m nd) t k) 8))), (5, .int (nI (zm (zg_e (zg_adj o1 o2 m nd) t k) 8))), (6, .int w), (7, .int (nI (zm (zg_nx (zg_adj o1 o2 m nd) t k 8) 8)))] rfl (kk μ hI)
  | succ j ih =>
    intro y μ hij hI
    have l3 := zm_lt (zg_nx (zg_adj o1 o2 m nd) t k y) 8
    have hB : ∀ x, x < 8 → μ.1 5 x = nI (zm ((zg_adj o1 o2 m nd) x) 8) := fun x hx => by rw [hI.1.a (b := 5) (by decide)]; exact hB0 x hx
    refine zq_go zt_X0_fillStepsTo 3 [] (if (nI 8) ≤ (nI y) then 154 else 66) [(0, .ref 1), (1, .int (nI t)), (2, .ref 45), (3, .int (nI fr)), (4, .int (nI (zm (zg_b (zg_adj o1 o2 m nd) t k) 8))), (5, .int (nI (zm (zg_e (zg_adj o1 o2 m nd) t k) 8))), (6, .int w), (7, .int (nI (zm (zg_nx (zg_adj o1 o2 m nd) t k y) 8))), (8, .int (nI y))] [] μ rfl trivial ?_
    rw [if_neg (by rw [zn_le (by omega) (by omega)]; omega)]
    refine zq_go zt_X0_fillStepsTo 6 [] (if ¬ (((nI (zm (zg_e (zg_adj o1 o2 m nd) t k) 8)) >>> ((nI y) &&& 31)) &&& (nI 1)) = 0 then 80 else 76) [(0, .ref 1), (1, .int (nI t)), (2, .ref 45), (3, .int (nI fr)), (4, .int (nI (zm (zg_b (zg_adj o1 o2 m nd) t k) 8))), (5, .int (nI (zm (zg_e (zg_adj o1 o2 m nd) t k) 8))), (6, .int w), (7, .int (nI (zm (zg_nx (zg_adj o1 o2 m nd) t k y) 8))), (8, .int (nI y))] [] μ rfl trivial ?_
    rw [zn_bit (Nat.lt_trans l2 (by decide)) (by omega), zm_tb]
    refine zq_ite (fun h17 => ?_) (fun h17 => ?_)
    · have he : zg_e (zg_adj o1 o2 m nd) t k y = true := by
        cases he : zg_e (zg_adj o1 o2 m nd) t k y with
        | true => rfl
        | false => rw [he] at h17; simp at h17; exact absurd rfl h17
      refine zq_go zt_X0_fillStepsTo 10 [vp_in (nI y) 8] 95 [(0, .ref 1), (1, .int (nI t)), (2, .ref 45), (3, .int (nI fr)), (4, .int (nI (zm (zg_b (zg_adj o1 o2 m nd) t k) 8))), (5, .int (nI (zm (zg_e (zg_adj o1 o2 m nd) t k) 8))), (6, .int w), (7, .int (nI (zm (zg_nx (zg_adj o1 o2 m nd) t k y) 8))), (8, .int (nI y))] [.int ((μ.1 5 ((nI y).toNatClampNeg)) &&& (((nI (zm (zg_b (zg_adj o1 o2 m nd) t k) 8)) ||| (nI (zm (zg_nx (zg_adj o1 o2 m nd) t k y) 8))) ^^^ (-1)))] μ rfl ⟨zn_in (k := y) rfl (by omega) (by decide), trivial⟩ ?_
      rw [zn_cl (n := y) (by omega), hB y (by omega)]
      rw [zm_and_not (zm_lt _ 8) l1 l3, show zm (fun i => (zm ((zg_adj o1 o2 m nd) y) 8).testBit i && !((zm (zg_b (zg_adj o1 o2 m nd) t k) 8).testBit i || (zm (zg_nx (zg_adj o1 o2 m nd) t k y) 8).testBit i)) 8 = zm (zg_bh (zg_adj o1 o2 m nd) t k y) 8 from zm_congr (fun i hi => by
        rw [zm_tb, zm_tb, zm_tb]
        unfold zg_bh
        rw [he]
        simp [hi])]
      refine zq_go zt_X0_fillStepsTo 7 [] 107 [(0, .ref 1), (1, .int (nI t)), (2, .ref 45), (3, .int (nI fr)), (4, .int (nI (zm (zg_b (zg_adj o1 o2 m nd) t k) 8))), (5, .int (nI (zm (zg_e (zg_adj o1 o2 m nd) t k) 8))), (6, .int w), (7, .int ((nI (zm (zg_nx (zg_adj o1 o2 m nd) t k y) 8)) ||| (nI (zm (zg_bh (zg_adj o1 o2 m nd) t k y) 8)))), (8, .int (nI y)), (9, .int (nI (zm (zg_bh (zg_adj o1 o2 m nd) t k y) 8))), (10, .int (nI 0))] [] μ rfl trivial ?_
      rw [zn_or, show zm (zg_nx (zg_adj o1 o2 m nd) t k y) 8 ||| zm (zg_bh (zg_adj o1 o2 m nd) t k y) 8 = zm (zg_nx (zg_adj o1 o2 m nd) t k (y + 1)) 8 from by
        apply Nat.eq_of_testBit_eq
        intro i
        rw [Nat.testBit_or, zm_tb, zm_tb, zm_tb, zg_nx_succ]
        cases decide (i < 8) <;> simp]
      refine zs_fs45_c hfr ht (Nat.lt_trans (zm_lt _ 8) (by decide)) _ _ _ _ (fun μ1 hJ => ?_) 8 0 μ (by omega) ⟨zq_fr.rf, fun x hx => by simp, fun _ _ => rfl⟩
      refine zq_go zt_X0_fillStepsTo 2 [] 59 [(0, .ref 1), (1, .int (nI t)), (2, .ref 45), (3, .int (nI fr)), (4, .int (nI (zm (zg_b (zg_adj o1 o2 m nd) t k) 8))), (5, .int (nI (zm (zg_e (zg_adj o1 o2 m nd) t k) 8))), (6, .int w), (7, .int (nI (zm (zg_nx (zg_adj o1 o2 m nd) t k (y + 1)) 8))), (8, .int ((nI y) + (nI 1)))] [] μ1 rfl trivial ?_
      rw [zn_add y 1]
      refine ih (y + 1) μ1 (by omega) ⟨hI.1.tr hJ.1, fun x hx => ?_, fun q hq => (hJ.2.2 q hq).trans (hI.2.2 q hq)⟩
      rw [hJ.2.1 x hx, hI.2.1 x hx, zm_tb, zg_f_succ]
      simp only [hx, decide_true, Bool.true_and]
      split <;> rfl
    · have he : zg_e (zg_adj o1 o2 m nd) t k y = false := by
        cases he : zg_e (zg_adj o1 o2 m nd) t k y with
        | false => rfl
        | true => rw [he] at h17; simp [show y < 8 by omega] at h17; exact absurd h17 (by decide)
      refine zq_go zt_X0_fillStepsTo 2 [] 95 [(0, .ref 1), (1, .int (nI t)), (2, .ref 45), (3, .int (nI fr)), (4, .int (nI (zm (zg_b (zg_adj o1 o2 m nd) t k) 8))), (5, .int (nI (zm (zg_e (zg_adj o1 o2 m nd) t k) 8))), (6, .int w), (7, .int (nI (zm (zg_nx (zg_adj o1 o2 m nd) t k y) 8))), (8, .int (nI y))] [.int (nI 0)] μ rfl trivial ?_
      rw [show nI 0 = nI (zm (zg_bh (zg_adj o1 o2 m nd) t k y) 8) from by rw [zm_0.mpr (fun i _ => by unfold zg_bh; rw [he]; rfl)]]
      refine zq_go zt_X0_fillStepsTo 7 [] 107 [(0, .ref 1), (1, .int (nI t)), (2, .ref 45), (3, .int (nI fr)), (4, .int (nI (zm (zg_b (zg_adj o1 o2 m nd) t k) 8))), (5, .int (nI (zm (zg_e (zg_adj o1 o2 m nd) t k) 8))), (6, .int w), (7, .int ((nI (zm (zg_nx (zg_adj o1 o2 m nd) t k y) 8)) ||| (nI (zm (zg_bh (zg_adj o1 o2 m nd) t k y) 8)))), (8, .int (nI y)), (9, .int (nI (zm (zg_bh (zg_adj o1 o2 m nd) t k y) 8))), (10, .int (nI 0))] [] μ rfl trivial ?_
      rw [zn_or, show zm (zg_nx (zg_adj o1 o2 m nd) t k y) 8 ||| zm (zg_bh (zg_adj o1 o2 m nd) t k y) 8 = zm (zg_nx (zg_adj o1 o2 m nd) t k (y + 1)) 8 from by
        apply Nat.eq_of_testBit_eq
        intro i
        rw [Nat.testBit_or, zm_tb, zm_tb, zm_tb, zg_nx_succ]
        cases decide (i < 8) <;> simp]
      refine zs_fs45_c hfr ht (Nat.lt_trans (zm_lt _ 8) (by decide)) _ _ _ _ (fun μ1 hJ => ?_) 8 0 μ (by omega) ⟨zq_fr.rf, fun x hx => by simp, fun _ _ => rfl⟩
      refine zq_go zt_X0_fillStepsTo 2 [] 59 [(0, .ref 1), (1, .int (nI t)), (2, .ref 45), (3, .int (nI fr)), (4, .int (nI (zm (zg_b (zg_adj o1 o2 m nd) t k) 8))), (5, .int (nI (zm (zg_e (zg_adj o1 o2 m nd) t k) 8))), (6, .int w), (7, .int (nI (zm (zg_nx (zg_adj o1 o2 m nd) t k (y + 1)) 8))), (8, .int ((nI y) + (nI 1)))] [] μ1 rfl trivial ?_
      rw [zn_add y 1]
      refine ih (y + 1) μ1 (by omega) ⟨hI.1.tr hJ.1, fun x hx => ?_, fun q hq => (hJ.2.2 q hq).trans (hI.2.2 q hq)⟩
      rw [hJ.2.1 x hx, hI.2.1 x hx, zm_tb, zg_f_succ]
      simp only [hx, decide_true, Bool.true_and]
      split <;> rfl
set_option maxRecDepth 100000 in
set_option maxHeartbeats 4000000 in
theorem zs_fs45_d {Q : zq_Post} {fr t : Nat} (hfr : fr ≤ 512) (ht : t < 8) {nd m : Nat} {o1 o2 : Nat → Nat} {μ0 : zq_Me} (hB0 : ∀ x, x < 8 → μ0.1 5 x = nI (zm ((zg_adj o1 o2 m nd) x) 8)) (kk : ∀ μ : zq_Me, (zq_fr [45] μ0 μ ∧ (∀ x, x < 8 → μ.1 45 (fr + x * 8 + t) = nI (zg_n (zg_adj o1 o2 m nd) t x)) ∧ (∀ q, (∀ x, x < 8 → q ≠ fr + x * 8 + t) → μ.1 45 q = μ0.1 45 q)) → zq_Wp zn_X0_fillStepsTo 171 [] [] μ Q) : ∀ (j k : Nat) (μ : zq_Me), k + j = 7 → (zq_fr [45] μ0 μ ∧ (∀ x, x < 8 → μ.1 45 (fr + x * 8 + t) = nI (if zg_b (zg_adj o1 o2 m nd) t k x = true then zg_n (zg_adj o1 o2 m nd) t x else x)) ∧ (∀ q, (∀ x, x < 8 → q ≠ fr + x * 8 + t) → μ.1 45 q = μ0.1 45 q)) → zq_Wp zn_X0_fillStepsTo 41 [(0, .ref 1), (1, .int (nI t)), (2, .ref 45), (3, .int (nI fr)), (4, .int (nI (zm (zg_b (zg_adj o1 o2 m nd) t k) 8))), (5, .int (nI (zm (zg_e (zg_adj o1 o2 m nd) t k) 8))), (6, .int (nI (k + 1)))] [] μ Q := by
  intro j
  induction j with
  | zero =>
    intro k μ hij hI
    obtain rfl : k = 7 := by omega
    refine zq_go zt_X0_fillStepsTo 3 [] (if (nI 8) ≤ (nI 8) then 171 else 48) [(0, .ref 1), (1, .int (nI t)), (2, .ref 45), (3, .int (nI fr)), (4, .int (nI (zm (zg_b (zg_adj o1 o2 m nd) t 7) 8))), (5, .int (nI (zm (zg_e (zg_adj o1 o2 m nd) t 7) 8))), (6, .int (nI 8))] [] μ rfl trivial ?_
    rw [if_pos (by rw [zn_le (by omega) (by omega)]; omega)]
    exact zq_drp [] [] rfl (kk μ ⟨hI.1, fun x hx => by rw [hI.2.1 x hx, zg_f_end ht hx (Or.inl rfl)], hI.2.2⟩)
  | succ j ih =>
    intro k μ hij hI
    have l2 := zm_lt (zg_e (zg_adj o1 o2 m nd) t k) 8
    refine zq_go zt_X0_fillStepsTo 3 [] (if (nI 8) ≤ (nI (k + 1)) then 171 else 48) [(0, .ref 1), (1, .int (nI t)), (2, .ref 45), (3, .int (nI fr)), (4, .int (nI (zm (zg_b (zg_adj o1 o2 m nd) t k) 8))), (5, .int (nI (zm (zg_e (zg_adj o1 o2 m nd) t k) 8))), (6, .int (nI (k + 1)))] [] μ rfl trivial ?_
    rw [if_neg (by rw [zn_le (by omega) (by omega)]; omega)]
    refine zq_go zt_X0_fillStepsTo 2 [] (if (nI (zm (zg_e (zg_adj o1 o2 m nd) t k) 8)) = 0 then 171 else 53) [(0, .ref 1), (1, .int (nI t)), (2, .ref 45), (3, .int (nI fr)), (4, .int (nI (zm (zg_b (zg_adj o1 o2 m nd) t k) 8))), (5, .int (nI (zm (zg_e (zg_adj o1 o2 m nd) t k) 8))), (6, .int (nI (k + 1)))] [] μ rfl trivial ?_
    refine zq_ite (fun h14 => ?_) (fun h14 => ?_)
    · have h9 : zm (zg_e (zg_adj o1 o2 m nd) t k) 8 = 0 := by rwa [show (0 : Int32) = nI 0 from rfl, zn_eq (Nat.lt_trans l2 (by decide)) (by decide)] at h14
      exact zq_drp [] [] rfl (kk μ ⟨hI.1, fun x hx => by rw [hI.2.1 x hx, zg_f_end ht hx (Or.inr (zm_0.mp h9))], hI.2.2⟩)
    · refine zq_go zt_X0_fillStepsTo 4 [] 59 [(0, .ref 1), (1, .int (nI t)), (2, .ref 45), (3, .int (nI fr)), (4, .int (nI (zm (zg_b (zg_adj o1 o2 m nd) t k) 8))), (5, .int (nI (zm (zg_e (zg_adj o1 o2 m nd) t k) 8))), (6, .int (nI (k + 1))), (7, .int (nI 0)), (8, .int (nI 0))] [] μ rfl trivial ?_
      have e0 : zm (zg_nx (zg_adj o1 o2 m nd) t k 0) 8 = 0 := zm_0.mpr (fun i _ => zg_nx_0 k i)
      refine zs_fs45_b hfr ht (nI (k + 1)) (fun x hx => by rw [hI.1.a (b := 5) (by decide)]; exact hB0 x hx) (fun μ1 hJ => ?_) 8 0 μ (by omega) ⟨zq_fr.rf, fun x hx => by rw [hI.2.1 x hx, zg_f_0], fun _ _ => rfl⟩ |> (fun h => by rw [e0] at h; exact h)
      refine zq_go zt_X0_fillStepsTo 8 [] 41 [(0, .ref 1), (1, .int (nI t)), (2, .ref 45), (3, .int (nI fr)), (4, .int ((nI (zm (zg_b (zg_adj o1 o2 m nd) t k) 8)) ||| (nI (zm (zg_nx (zg_adj o1 o2 m nd) t k 8) 8)))), (5, .int (nI (zm (zg_nx (zg_adj o1 o2 m nd) t k 8) 8))), (6, .int ((nI (k + 1)) + (nI 1))), (7, .int (nI (zm (zg_nx (zg_adj o1 o2 m nd) t k 8) 8)))] [] μ1 rfl trivial ?_
      rw [zn_add (k + 1) 1]
      rw [zn_or, show zm (zg_b (zg_adj o1 o2 m nd) t k) 8 ||| zm (zg_nx (zg_adj o1 o2 m nd) t k 8) 8 = zm (zg_b (zg_adj o1 o2 m nd) t (k + 1)) 8 from by
        apply Nat.eq_of_testBit_eq
        intro i
        rw [Nat.testBit_or, zm_tb, zm_tb, zm_tb]
        by_cases hi : i < 8
        · rw [← zg_nx_8 (by omega) hi]; simp [hi]
        · simp [hi], show zm (zg_nx (zg_adj o1 o2 m nd) t k 8) 8 = zm (zg_e (zg_adj o1 o2 m nd) t (k + 1)) 8 from zm_congr (fun i hi => zg_e_succ (by omega) hi)]
      exact zq_drp [0, 1, 2, 3, 4, 5, 6] [(0, .ref 1), (1, .int (nI t)), (2, .ref 45), (3, .int (nI fr)), (4, .int (nI (zm (zg_b (zg_adj o1 o2 m nd) t (k + 1)) 8))), (5, .int (nI (zm (zg_e (zg_adj o1 o2 m nd) t (k + 1)) 8))), (6, .int (nI (k + 1 + 1)))] rfl (ih (k + 1) μ1 (by omega) ⟨hI.1.tr hJ.1, fun x hx => by rw [hJ.2.1 x hx, zg_f_8 (by omega) hx], fun q hq => (hJ.2.2 q hq).trans (hI.2.2 q hq)⟩)
set_option maxRecDepth 100000 in
set_option maxHeartbeats 4000000 in
theorem zs_fs45 {fr t : Nat} (hfr : fr ≤ 512) (ht : t < 8) {nd m : Nat} {o1 o2 : Nat → Nat} {μ : zq_Me} (hB0 : ∀ x, x < 8 → μ.1 5 x = nI (zm ((zg_adj o1 o2 m nd) x) 8)) : zq_Wp zn_X0_fillStepsTo 0 [(0, .ref 1), (1, .int (nI t)), (2, .ref 45), (3, .int (nI fr))] [] μ (fun r μ' => r = none ∧ zq_fr [45] μ μ' ∧ (∀ x, x < 8 → μ'.1 45 (fr + x * 8 + t) = nI (zg_n (zg_adj o1 o2 m nd) t x)) ∧ ∀ q, (∀ x, x < 8 → q ≠ fr + x * 8 + t) → μ'.1 45 q = μ.1 45 q) := by
  refine zq_go zt_X0_fillStepsTo 2 [] 3 [(0, .ref 1), (1, .int (nI t)), (2, .ref 45), (3, .int (nI fr)), (4, .int (nI 0))] [] μ rfl trivial ?_
  refine zs_fs45_a hfr ht (fun μ1 hI => ?_) 8 0 μ (by omega) ⟨zq_fr.rf, fun x hx => absurd hx (Nat.not_lt_zero x), fun _ _ => rfl⟩
  refine zq_go zt_X0_fillStepsTo 8 [] 41 [(0, .ref 1), (1, .int (nI t)), (2, .ref 45), (3, .int (nI fr)), (4, .int ((nI 1) <<< ((nI t) &&& 31))), (5, .int ((nI 1) <<< ((nI t) &&& 31))), (6, .int (nI 1))] [] μ1 rfl trivial ?_
  rw [zn_1shl (k := t) (by omega)]
  have e1 : 2 ^ t = zm (zg_b (zg_adj o1 o2 m nd) t 0) 8 := by
    apply Nat.eq_of_testBit_eq
    intro i
    rw [Nat.testBit_two_pow, zm_tb]
    by_cases h : t = i
    · subst h; simp [zg_b, ht]
    · simp [zg_b, h, Ne.symm h]
  have e2 : zm (zg_b (zg_adj o1 o2 m nd) t 0) 8 = zm (zg_e (zg_adj o1 o2 m nd) t 0) 8 := zm_congr (fun i _ => by simp [zg_e, zg_p])
  refine zs_fs45_d hfr ht (fun x hx => by rw [hI.1.a (b := 5) (by decide)]; exact hB0 x hx) (fun μ2 hJ => ?_) 7 0 μ1 (by omega) ⟨zq_fr.rf, fun x hx => ?_, fun _ _ => rfl⟩ |> (fun h => by rw [← e2, ← e1] at h; exact h)
  · exact zq_retn zt_X0_fillStepsTo rfl rfl ⟨rfl, hI.1.tr hJ.1, hJ.2.1, fun q hq => (hJ.2.2 q hq).trans (hI.2.2 q hq)⟩
  · rw [hI.2.1 x hx]
    by_cases h : zg_b (zg_adj o1 o2 m nd) t 0 x = true
    · rw [if_pos h]
      have hx9 : x = t := by simpa [zg_b] using h
      rw [hx9, zg_n_0 (Or.inl (zg_d0 t))]
    · rw [if_neg h]
