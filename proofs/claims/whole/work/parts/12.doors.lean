/-! ===== the class's doors: which rooms are beside which, the next room to each aim ===== -/
def zg_adj (o1 o2 : Nat → Nat) (m : Nat) : Nat → Nat → Nat → Bool
  | 0, _, _ => false
  | d + 1, x, y => zg_adj o1 o2 m d x y || (!m.testBit d && ((decide (x = o1 d) && decide (y = o2 d)) || (decide (x = o2 d) && decide (y = o1 d))))
theorem zg_adj_succ (o1 o2 : Nat → Nat) (m d x y : Nat) : zg_adj o1 o2 m (d + 1) x y = (zg_adj o1 o2 m d x y || (!m.testBit d && ((decide (x = o1 d) && decide (y = o2 d)) || (decide (x = o2 d) && decide (y = o1 d))))) := rfl
theorem zg_adj_sym (o1 o2 : Nat → Nat) (m : Nat) : ∀ d x y, zg_adj o1 o2 m d x y = zg_adj o1 o2 m d y x
  | 0, _, _ => rfl
  | d + 1, x, y => by
    rw [zg_adj_succ, zg_adj_succ, zg_adj_sym o1 o2 m d x y, Bool.and_comm (decide (x = o1 d)), Bool.and_comm (decide (x = o2 d)), Bool.or_comm (decide (y = o2 d) && decide (x = o1 d))]
theorem zg_adj_row {o1 o2 : Nat → Nat} {m d : Nat} {f : Nat → Int32} (h1 : o1 d < 8) (h2 : o2 d < 8) (hm : m.testBit d = false) (hf : ∀ x, x < 8 → f x = nI (zm (zg_adj o1 o2 m d x) 8)) :
    ∀ x, x < 8 → (upd (upd f (o1 d) (f (o1 d) ||| nI (2 ^ o2 d))) (o2 d) ((upd f (o1 d) (f (o1 d) ||| nI (2 ^ o2 d))) (o2 d) ||| nI (2 ^ o1 d))) x = nI (zm (zg_adj o1 o2 m (d + 1) x) 8) := by
  intro x hx
  have key : ∀ (b : Nat), (∀ i, i < 8 → b.testBit i = zg_adj o1 o2 m (d + 1) x i) → (∀ i, ¬ i < 8 → b.testBit i = false) → b = zm (zg_adj o1 o2 m (d + 1) x) 8 := by
    intro b hb hb2
    apply Nat.eq_of_testBit_eq
    intro i
    rw [zm_tb]
    by_cases hi : i < 8
    · rw [hb i hi]; simp [hi]
    · rw [hb2 i hi]; simp [hi]
  have hnb : (!m.testBit d) = true := by rw [hm]; rfl
  unfold upd
  by_cases e2 : x = o2 d
  · rw [if_pos e2]
    by_cases e1 : o2 d = o1 d
    · rw [if_pos e1, hf _ h1, zn_or, zn_or]
      congr 1
      apply key
      · intro i hi
        rw [Nat.testBit_or, Nat.testBit_or, zm_tb, Nat.testBit_two_pow, Nat.testBit_two_pow]
        rw [zg_adj_succ, hnb, e2, e1]
        simp [hi, eq_comm, Bool.or_assoc]
      · intro i hi
        rw [Nat.testBit_or, Nat.testBit_or, zm_tb, Nat.testBit_two_pow, Nat.testBit_two_pow]
        have q1 : ¬ o1 d = i := by omega
        have q2 : ¬ o2 d = i := by omega
        simp [hi, q1, q2]
    · rw [if_neg e1, hf _ h2, zn_or]
      congr 1
      apply key
      · intro i hi
        rw [Nat.testBit_or, zm_tb, Nat.testBit_two_pow]
        rw [zg_adj_succ, hnb, e2]
        simp [hi, e1, eq_comm]
      · intro i hi
        rw [Nat.testBit_or, zm_tb, Nat.testBit_two_pow]
        have q1 : ¬ o1 d = i := by omega
        simp [hi, q1]
  · rw [if_neg e2]
    by_cases e1 : x = o1 d
    · rw [if_pos e1, hf _ h1, zn_or]
      congr 1
      apply key
      · intro i hi
        rw [Nat.testBit_or, zm_tb, Nat.testBit_two_pow]
        rw [zg_adj_succ, hnb, ← e1]
        simp [hi, e2, eq_comm]
      · intro i hi
        rw [Nat.testBit_or, zm_tb, Nat.testBit_two_pow]
        have q1 : ¬ o2 d = i := by omega
        simp [hi, q1]
    · rw [if_neg e1, hf x hx]
      congr 1
      apply key
      · intro i hi
        rw [zm_tb]
        rw [zg_adj_succ]
        simp [hi, e1, e2]
      · intro i hi
        rw [zm_tb]
        simp [hi]
theorem zg_adj_shut {o1 o2 : Nat → Nat} {m d : Nat} (hm : m.testBit d = true) (x y : Nat) : zg_adj o1 o2 m (d + 1) x y = zg_adj o1 o2 m d x y := by
  rw [zg_adj_succ, hm]; simp
/-- what a world knows of its doors: how many, between which rooms -/
def zD (nd : Nat) (o1 o2 : Nat → Nat) (μ : zq_Me) : Prop := nd ≤ 12 ∧ μ.1 1 5 = nI nd ∧ (∀ d, d < nd → μ.1 3 d = nI (o1 d) ∧ o1 d < 8) ∧ (∀ d, d < nd → μ.1 4 d = nI (o2 d) ∧ o2 d < 8)
theorem zD.fr {nd : Nat} {o1 o2 : Nat → Nat} {μ μ1 : zq_Me} {S : List Nat} (h : zD nd o1 o2 μ) (hf : zq_fr S μ μ1) (hs : 1 ∉ S ∧ 3 ∉ S ∧ 4 ∉ S) : zD nd o1 o2 μ1 := by
  obtain ⟨a, b, c, d⟩ := h
  exact ⟨a, by rw [hf.a hs.1]; exact b, fun e he => by rw [hf.a hs.2.1]; exact c e he, fun e he => by rw [hf.a hs.2.2]; exact d e he⟩
set_option maxRecDepth 100000 in
set_option maxHeartbeats 4000000 in
theorem zs_open_z {Q : zq_Post} {m : Nat} {μ0 : zq_Me} (kk : ∀ μ : zq_Me, (zq_fr [5] μ0 μ ∧ ∀ x, x < 8 → μ.1 5 x = nI 0) → zq_Wp zn_X0_openAllBut 21 [(0, .ref 1), (1, .int (nI m))] [] μ Q) : ∀ (j i : Nat) (μ : zq_Me), i + j = 8 → (zq_fr [5] μ0 μ ∧ ∀ x, x < i → μ.1 5 x = nI 0) → zq_Wp zn_X0_openAllBut 2 [(0, .ref 1), (1, .int (nI m)), (2, .int (nI i))] [] μ Q := by
  intro j
  induction j with
  | zero =>
    intro i μ hij hI
    obtain rfl : i = 8 := by omega
    refine zq_go zt_X0_openAllBut 3 [] (if (nI 8) ≤ (nI 8) then 21 else 8) [(0, .ref 1), (1, .int (nI m)), (2, .int (nI 8))] [] μ rfl trivial ?_
    rw [if_pos (by decide)]
    exact zq_drp [0, 1] [(0, .ref 1), (1, .int (nI m))] rfl (kk μ hI)
  | succ j ih =>
    intro i μ hij hI
    refine zq_go zt_X0_openAllBut 3 [] (if (nI 8) ≤ (nI i) then 21 else 8) [(0, .ref 1), (1, .int (nI m)), (2, .int (nI i))] [] μ rfl trivial ?_
    rw [if_neg (by rw [zn_le (by omega) (by omega)]; omega)]
    refine zq_go zt_X0_openAllBut 7 [vp_in (nI i) 8] 2 [(0, .ref 1), (1, .int (nI m)), (2, .int ((nI i) + (nI 1)))] [] (zq_u1 μ 5 ((nI i).toNatClampNeg) (nI 0)) rfl ⟨zn_in (k := i) rfl (by omega) (by decide), trivial⟩ ?_
    rw [zn_add i 1, zn_cl (n := i) (by omega)]
    exact ih (i + 1) _ (by omega) ⟨hI.1.u1 (by simp), fun q hq => by rw [zq_u1_rd]; split; rfl; exact hI.2 q (by omega)⟩
set_option maxRecDepth 100000 in
set_option maxHeartbeats 4000000 in
theorem zs_open_l {Q : zq_Post} {nd m : Nat} {o1 o2 : Nat → Nat} {μ0 : zq_Me} (hD0 : zD nd o1 o2 μ0) (hm : m < 2 ^ 31) (kk : ∀ μ : zq_Me, (zq_fr [5] μ0 μ ∧ ∀ x, x < 8 → μ.1 5 x = nI (zm (zg_adj o1 o2 m nd x) 8)) → zq_Wp zn_X0_openAllBut 89 [] [] μ Q) : ∀ (j d : Nat) (μ : zq_Me), d + j = nd → (zq_fr [5] μ0 μ ∧ ∀ x, x < 8 → μ.1 5 x = nI (zm (zg_adj o1 o2 m d x) 8)) → zq_Wp zn_X0_openAllBut 23 [(0, .ref 1), (1, .int (nI m)), (2, .int (nI d))] [] μ Q := by
  intro j
  induction j with
  | zero =>
    intro d μ hij hI
    have hd9 : d = nd := by omega
    subst hd9
    have hD := hD0.fr hI.1 (by decide)
    have hnd := hD.1
    refine zq_go zt_X0_openAllBut 4 [] (if (μ.1 1 5) ≤ (nI d) then 89 else 31) [(0, .ref 1), (1, .int (nI m)), (2, .int (nI d))] [] μ rfl trivial ?_
    rw [hD.2.1]
    rw [if_pos (by rw [zn_le (by omega) (by omega)]; omega)]
    exact zq_drp [] [] rfl (kk μ hI)
  | succ j ih =>
    intro d μ hij hI
    have hD := hD0.fr hI.1 (by decide)
    have hnd := hD.1
    have g1 := (hD.2.2.1 d (by omega)).2
    have g2 := (hD.2.2.2 d (by omega)).2
    refine zq_go zt_X0_openAllBut 4 [] (if (μ.1 1 5) ≤ (nI d) then 89 else 31) [(0, .ref 1), (1, .int (nI m)), (2, .int (nI d))] [] μ rfl trivial ?_
    rw [hD.2.1]
    rw [if_neg (by rw [zn_le (by omega) (by omega)]; omega)]
    refine zq_go zt_X0_openAllBut 6 [] (if ¬ (((nI m) >>> ((nI d) &&& 31)) &&& (nI 1)) = 0 then 83 else 39) [(0, .ref 1), (1, .int (nI m)), (2, .int (nI d))] [] μ rfl trivial ?_
    rw [zn_bit hm (by omega)]
    refine zq_ite (fun h22 => ?_) (fun h22 => ?_)
    · have hb : m.testBit d = true := by
        cases hb : m.testBit d with
        | true => rfl
        | false => rw [hb] at h22; exact absurd rfl h22
      refine zq_go zt_X0_openAllBut 2 [] 23 [(0, .ref 1), (1, .int (nI m)), (2, .int ((nI d) + (nI 1)))] [] μ rfl trivial ?_
      rw [zn_add d 1]
      exact ih (d + 1) μ (by omega) ⟨hI.1, fun x hx => by rw [hI.2 x hx, zm_congr (fun i _ => (zg_adj_shut hb x i).symm)]⟩
    · have hb : m.testBit d = false := by
        cases hb : m.testBit d with
        | false => rfl
        | true => rw [hb] at h22; exact absurd (show ¬ nI 1 = 0 by decide) h22
      refine zq_go zt_X0_openAllBut 34 [vp_in (nI d) 12, vp_in (μ.1 3 ((nI d).toNatClampNeg)) 8, vp_in (nI d) 12, vp_in (μ.1 3 ((nI d).toNatClampNeg)) 8, vp_in (nI d) 12, vp_in (μ.1 4 ((nI d).toNatClampNeg)) 8, vp_in (nI d) 12, vp_in (μ.1 4 ((nI d).toNatClampNeg)) 8] 23 [(0, .ref 1), (1, .int (nI m)), (2, .int ((nI d) + (nI 1)))] [] (zq_u1 (zq_u1 μ 5 ((μ.1 3 ((nI d).toNatClampNeg)).toNatClampNeg) ((μ.1 5 ((μ.1 3 ((nI d).toNatClampNeg)).toNatClampNeg)) ||| ((nI 1) <<< ((μ.1 4 ((nI d).toNatClampNeg)) &&& 31)))) 5 ((μ.1 4 ((nI d).toNatClampNeg)).toNatClampNeg) (((zq_u1 μ 5 ((μ.1 3 ((nI d).toNatClampNeg)).toNatClampNeg) ((μ.1 5 ((μ.1 3 ((nI d).toNatClampNeg)).toNatClampNeg)) ||| ((nI 1) <<< ((μ.1 4 ((nI d).toNatClampNeg)) &&& 31)))).1 5 ((μ.1 4 ((nI d).toNatClampNeg)).toNatClampNeg)) ||| ((nI 1) <<< ((μ.1 3 ((nI d).toNatClampNeg)) &&& 31)))) rfl ⟨zn_in (k := d) rfl (by omega) (by decide), ⟨zn_in (k := o1 d) (by rw [zn_cl (n := d) (by omega), (hD.2.2.1 d (by omega)).1]) (by omega) (by decide), ⟨zn_in (k := d) rfl (by omega) (by decide), ⟨zn_in (k := o1 d) (by rw [zn_cl (n := d) (by omega), (hD.2.2.1 d (by omega)).1]) (by omega) (by decide), ⟨zn_in (k := d) rfl (by omega) (by decide), ⟨zn_in (k := o2 d) (by rw [zn_cl (n := d) (by omega), (hD.2.2.2 d (by omega)).1]) (by omega) (by decide), ⟨zn_in (k := d) rfl (by omega) (by decide), ⟨zn_in (k := o2 d) (by rw [zn_cl (n := d) (by omega), (hD.2.2.2 d (by omega)).1]) (by omega) (by decide), trivial⟩⟩⟩⟩⟩⟩⟩⟩ ?_
      rw [zn_add d 1, zn_cl (n := d) (by omega), (hD.2.2.1 d (by omega)).1, zn_cl (n := o1 d) (by omega), (hD.2.2.2 d (by omega)).1, zn_cl (n := o2 d) (by omega)]
      rw [zn_1shl (k := o2 d) (by omega), zn_1shl (k := o1 d) (by omega)]
      refine ih (d + 1) _ (by omega) ⟨(hI.1.u1 (by simp)).u1 (by simp), fun x hx => ?_⟩
      rw [zq_u1_eq, zq_u1_eq]
      exact zg_adj_row g1 g2 hb hI.2 x hx
set_option maxRecDepth 100000 in
set_option maxHeartbeats 4000000 in
theorem zs_open {nd m : Nat} {o1 o2 : Nat → Nat} {μ : zq_Me} (hD : zD nd o1 o2 μ) (hm : m < 2 ^ 31) : zq_Wp zn_X0_openAllBut 0 [(0, .ref 1), (1, .int (nI m))] [] μ (fun r μ' => r = none ∧ zq_fr [5] μ μ' ∧ ∀ x, x < 8 → μ'.1 5 x = nI (zm (zg_adj o1 o2 m nd x) 8)) := by
  refine zq_go zt_X0_openAllBut 2 [] 2 [(0, .ref 1), (1, .int (nI m)), (2, .int (nI 0))] [] μ rfl trivial ?_
  refine zs_open_z (fun μ1 hI1 => ?_) 8 0 μ (by omega) ⟨zq_fr.rf, fun x hx => absurd hx (Nat.not_lt_zero x)⟩
  obtain ⟨hf, hz⟩ := hI1
  refine zq_go zt_X0_openAllBut 2 [] 23 [(0, .ref 1), (1, .int (nI m)), (2, .int (nI 0))] [] μ1 rfl trivial ?_
  refine zs_open_l (hD.fr hf (by decide)) hm (fun μ2 hI => ?_) nd 0 μ1 (by omega) ⟨zq_fr.rf, fun x hx => by rw [hz x hx, (zm_0 (p := zg_adj o1 o2 m 0 x)).mpr (fun i _ => rfl)]⟩
  exact zq_retn zt_X0_openAllBut rfl rfl (⟨rfl, hf.tr hI.1, hI.2⟩)
