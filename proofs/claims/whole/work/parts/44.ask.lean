/-! ===== ask, weeks ===== -/
def ycn (n : Nat) (Pt : Nat → Nat) (b r : Nat) : Nat := zc (fun u => n.testBit u && decide (Pt u = r)) b
def ymb (n : Nat) (Pt : Nat → Nat) : Nat := zmx (ycn n Pt 8) 8
theorem ycn_le (n : Nat) (Pt : Nat → Nat) (b : Nat) : ∀ r, ycn n Pt b r ≤ b := fun r => zc_le _ _
theorem ycn_s (n : Nat) (Pt : Nat → Nat) (b r : Nat) : ycn n Pt (b + 1) r = ycn n Pt b r + (if (n.testBit b && decide (Pt b = r)) = true then 1 else 0) := rfl
theorem ycn_f {n : Nat} {Pt : Nat → Nat} {b : Nat} (h : n.testBit b = false) : ycn n Pt (b + 1) = ycn n Pt b := by
  funext r
  rw [ycn_s, h, Bool.false_and, if_neg (by decide), Nat.add_zero]
theorem ycn_t {n : Nat} {Pt : Nat → Nat} {b : Nat} (h : n.testBit b = true) (r : Nat) : ycn n Pt (b + 1) r = if r = Pt b then ycn n Pt b r + 1 else ycn n Pt b r := by
  rw [ycn_s, h, Bool.true_and]
  by_cases q : Pt b = r
  · rw [if_pos (decide_eq_true q), if_pos q.symm]
  · rw [if_neg (by rw [decide_eq_false q]; decide), if_neg (fun x => q x.symm), Nat.add_zero]
theorem zmx_up {f g : Nat → Nat} {n x : Nat} (hx : x < n) (hg : ∀ r, g r = if r = x then f r + 1 else f r) : zmx g n = if zmx f n < f x + 1 then f x + 1 else zmx f n := by
  have a1 := zam_at (f := g) (n := n) (by omega)
  have a2 := zam_at (f := f) (n := n) (by omega)
  have b1 := zmx_ge (f := g) hx
  rw [hg x, if_pos rfl] at b1
  have b2 := zmx_ge (f := g) a2.2
  have b3 : f (zam f n) ≤ g (zam f n) := by
    rw [hg]
    split <;> omega
  have c1 := zmx_ge (f := f) a1.2
  have c2 := a1.1
  rw [hg] at c2
  by_cases q : zam g n = x
  · rw [if_pos q, q] at c2
    split <;> omega
  · rw [if_neg q] at c2
    split <;> omega
theorem zc_pos {p : Nat → Bool} : ∀ {n : Nat}, 0 < zc p n → ∃ i, i < n ∧ p i = true
  | 0, h => absurd h (Nat.lt_irrefl 0)
  | n + 1, h => by
    have e : zc p (n + 1) = zc p n + (if p n = true then 1 else 0) := rfl
    by_cases q : p n = true
    · exact ⟨n, by omega, q⟩
    · rw [if_neg q] at e
      obtain ⟨i, hi, hp⟩ := zc_pos (p := p) (n := n) (by omega)
      exact ⟨i, by omega, hp⟩
/-- of each bed, how many are in its room: the greatest is that of the rooms -/
def yga (n : Nat) (Pt : Nat → Nat) (a b : Nat) : Nat := zc (fun u => n.testBit a && n.testBit u && decide (Pt a = Pt u)) b
theorem yga_eq {n : Nat} {Pt : Nat → Nat} (hP : ∀ u, u < 8 → Pt u < 8) : zmx (fun a => yga n Pt a 8) 8 = ymb n Pt := by
  have e1 : ∀ a, n.testBit a = true → yga n Pt a 8 = ycn n Pt 8 (Pt a) := fun a h => zc_congr (fun u _ => by
    show (n.testBit a && n.testBit u && decide (Pt a = Pt u)) = (n.testBit u && decide (Pt u = Pt a))
    rw [h, Bool.true_and, show decide (Pt a = Pt u) = decide (Pt u = Pt a) from decide_eq_decide.mpr ⟨Eq.symm, Eq.symm⟩])
  have e2 : ∀ a, n.testBit a = false → yga n Pt a 8 = 0 := fun a h => by
    by_cases q : yga n Pt a 8 = 0
    · exact q
    · obtain ⟨i, _, hi⟩ := zc_pos (show 0 < yga n Pt a 8 by omega)
      rw [h, Bool.false_and, Bool.false_and] at hi
      exact absurd hi (by decide)
  have a1 := zam_at (f := fun a => yga n Pt a 8) (n := 8) (by decide)
  have a2 := zam_at (f := ycn n Pt 8) (n := 8) (by decide)
  have h1 : zmx (fun a => yga n Pt a 8) 8 ≤ ymb n Pt := by
    rw [← a1.1]
    show yga n Pt (zam (fun a => yga n Pt a 8) 8) 8 ≤ _
    cases q : n.testBit (zam (fun a => yga n Pt a 8) 8) with
    | false => rw [e2 _ q]; exact Nat.zero_le _
    | true => rw [e1 _ q]; exact zmx_ge (f := ycn n Pt 8) (hP _ a1.2)
  have h2 : ymb n Pt ≤ zmx (fun a => yga n Pt a 8) 8 := by
    unfold ymb
    rw [← a2.1]
    by_cases q : ycn n Pt 8 (zam (ycn n Pt 8) 8) = 0
    · rw [q]; exact Nat.zero_le _
    · obtain ⟨i, hi, hb⟩ := zc_pos (show 0 < ycn n Pt 8 (zam (ycn n Pt 8) 8) by omega)
      rw [Bool.and_eq_true] at hb
      have h9 := of_decide_eq_true hb.2
      rw [← h9, ← e1 i hb.1]
      exact zmx_ge (f := fun a => yga n Pt a 8) hi
  omega
/-! the first least -/
def yan2 (f : Nat → Nat) : Nat → Nat × Nat
  | 0 => (9, 0)
  | n + 1 => if f n < (yan2 f n).1 then (f n, n) else yan2 f n
theorem yan2_s (f : Nat → Nat) (n : Nat) : yan2 f (n + 1) = if f n < (yan2 f n).1 then (f n, n) else yan2 f n := rfl
theorem yan2_le (f : Nat → Nat) (hf : ∀ n, f n ≤ 8) : ∀ n, (yan2 f n).1 ≤ 9 ∧ (yan2 f n).2 ≤ n ∧ (0 < n → (yan2 f n).1 ≤ 8)
  | 0 => ⟨Nat.le_refl _, Nat.le_refl _, fun h => absurd h (Nat.lt_irrefl 0)⟩
  | n + 1 => by
    obtain ⟨a, b, c⟩ := yan2_le f hf n
    have h9 := hf n
    rw [yan2_s]
    by_cases q : f n < (yan2 f n).1
    · rw [if_pos q]; exact ⟨by show f n ≤ 9; omega, by show n ≤ n + 1; omega, fun _ => h9⟩
    · rw [if_neg q]; exact ⟨a, by omega, fun _ => by omega⟩
def yb2 (f : Nat → Nat) (n : Nat) : Nat := if n = 0 then 0 else (yan2 f n).2 + 1
def yl2 (f : Nat → Nat) (n : Nat) : Nat := if n = 0 then 0 else (yan2 f n).1
theorem yb2_y {f : Nat → Nat} {n : Nat} (h : f n < (yan2 f n).1) : yb2 f (n + 1) = n + 1 ∧ yl2 f (n + 1) = f n := by
  unfold yb2 yl2
  rw [if_neg (Nat.succ_ne_zero n), if_neg (Nat.succ_ne_zero n), yan2_s, if_pos h]
  exact ⟨rfl, rfl⟩
theorem yb2_n {f : Nat → Nat} {n : Nat} (h0 : ¬ n = 0) (h : ¬ f n < (yan2 f n).1) : yb2 f (n + 1) = yb2 f n ∧ yl2 f (n + 1) = yl2 f n := by
  unfold yb2 yl2
  rw [if_neg (Nat.succ_ne_zero n), if_neg (Nat.succ_ne_zero n), yan2_s, if_neg h, if_neg h0, if_neg h0]
  exact ⟨rfl, rfl⟩
theorem ybh_lt {τ : zTd} (hn : zEn (yne τ) (yek τ) (yen τ)) {k v h : Nat} (lk : k < ynp τ) (lv : v < 8) (hh : h < 24) : ybh τ k v h < 8 := yR_lt hn (fun p hp => ⟨(yp_lt hp).1, by
  unfold yub
  split
  · exact lv
  · exact (yp_lt hp).2.2⟩) lk hh
def yaf (τ : zTd) (S : zES) (k h : Nat) : Nat := ymb (zm (ybe τ S k) 8) (fun u => ybh τ k u h)
theorem yaf_le (τ : zTd) (S : zES) (k : Nat) : ∀ h, yaf τ S k h ≤ 8 := fun h => zmx_le (ycn_le _ _ 8) 8
theorem zmax {a c : Nat} (ha : a < 2 ^ 31) (hc : c < 2 ^ 31) : (if nI a < nI c then nI c else nI a) = nI (if a < c then c else a) := by
  by_cases q : a < c
  · rw [if_pos q, if_pos (by rw [zn_lt ha hc]; exact q)]
  · rw [if_neg q, if_neg (by rw [zn_lt ha hc]; exact q)]
set_option maxRecDepth 100000 in
set_option maxHeartbeats 400000 in
theorem zs_mbr_l {n h : Nat} {Pt : Nat → Nat} {μ0 : zq_Me} (hn : n < 2 ^ 31) (hh : h < 24) (hA : ∀ u, u < 8 → μ0.1 47 (u * 24 + h) = nI (Pt u) ∧ Pt u < 8) : ∀ (j b : Nat) (μ : zq_Me), b + j = 8 → (zq_fr [48] μ0 μ ∧ ∀ r, r < 8 → μ.1 48 r = nI (ycn n Pt b r)) → zq_Wp zn_X8_mostBedsInOneRoom 13 [(0, .ref 0), (1, .int (nI h)), (2, .int (nI n)), (3, .int (nI (zmx (ycn n Pt b) 8))), (4, .int (nI b))] [] μ (fun r μ => r = some (.int (nI (ymb n Pt))) ∧ zq_fr [48] μ0 μ) := by
  intro j
  induction j with
  | zero =>
    rintro b μ hij ⟨hF, hB⟩
    obtain rfl : b = 8 := by omega
    refine zq_go zt_X8_mostBedsInOneRoom 3 [] (if (nI 8) ≤ (nI 8) then 72 else 20) [(0, .ref 0), (1, .int (nI h)), (2, .int (nI n)), (3, .int (nI (zmx (ycn n Pt 8) 8))), (4, .int (nI 8))] [] μ rfl trivial ?_
    rw [if_pos (by decide)]
    refine zq_go zt_X8_mostBedsInOneRoom 1 [] 73 [(0, .ref 0), (1, .int (nI h)), (2, .int (nI n)), (3, .int (nI (zmx (ycn n Pt 8) 8))), (4, .int (nI 8))] [.int (nI (zmx (ycn n Pt 8) 8))] μ rfl trivial ?_
    exact zq_retn zt_X8_mostBedsInOneRoom rfl rfl (⟨rfl, hF⟩)
  | succ j ih =>
    rintro b μ hij ⟨hF, hB⟩
    obtain ⟨p1, p2⟩ := hA b (by omega)
    have e47 : μ.1 47 (b * 24 + h) = nI (Pt b) := by rw [hF.a (b := 47) (by decide)]; exact p1
    have hm8 : zmx (ycn n Pt b) 8 ≤ b := zmx_le (ycn_le n Pt b) 8
    have hc8 := ycn_le n Pt b (Pt b)
    refine zq_go zt_X8_mostBedsInOneRoom 3 [] (if (nI 8) ≤ (nI b) then 72 else 20) [(0, .ref 0), (1, .int (nI h)), (2, .int (nI n)), (3, .int (nI (zmx (ycn n Pt b) 8))), (4, .int (nI b))] [] μ rfl trivial ?_
    rw [if_neg (by rw [zn_le (by omega) (by omega)]; omega)]
    refine zq_go zt_X8_mostBedsInOneRoom 6 [] (if (((nI n) >>> ((nI b) &&& 31)) &&& (nI 1)) = 0 then 66 else 29) [(0, .ref 0), (1, .int (nI h)), (2, .int (nI n)), (3, .int (nI (zmx (ycn n Pt b) 8))), (4, .int (nI b))] [] μ rfl trivial ?_
    refine zq_ite (fun h18 => ?_) (fun h18 => ?_)
    · rw [zn_bit hn (by omega), zB_bit] at h18
      have h7 := zB_f h18
      refine zq_go zt_X8_mostBedsInOneRoom 2 [] 13 [(0, .ref 0), (1, .int (nI h)), (2, .int (nI n)), (3, .int (nI (zmx (ycn n Pt b) 8))), (4, .int ((nI b) + (nI 1)))] [] μ rfl trivial ?_
      rw [zn_add b 1]
      have h9 := ih (b + 1) μ (by omega) ⟨hF, by rw [ycn_f h7]; exact hB⟩
      rw [ycn_f h7] at h9
      exact h9
    · rw [zn_bit hn (by omega), zB_bit] at h18
      have h7 := zB_t h18
      refine zq_go zt_X8_mostBedsInOneRoom 17 [vp_in (((nI b) * (nI 24)) + (nI h)) 192, vp_in (μ.1 47 ((((nI b) * (nI 24)) + (nI h)).toNatClampNeg)) 8, vp_in (μ.1 47 ((((nI b) * (nI 24)) + (nI h)).toNatClampNeg)) 8] 54 [(0, .ref 0), (1, .int (nI h)), (2, .int (nI n)), (3, .int (nI (zmx (ycn n Pt b) 8))), (4, .int (nI b)), (5, .int (μ.1 47 ((((nI b) * (nI 24)) + (nI h)).toNatClampNeg)))] [] (zq_u1 μ 48 ((μ.1 47 ((((nI b) * (nI 24)) + (nI h)).toNatClampNeg)).toNatClampNeg) ((μ.1 48 ((μ.1 47 ((((nI b) * (nI 24)) + (nI h)).toNatClampNeg)).toNatClampNeg)) + (nI 1))) rfl ⟨zn_in (k := (b * 24) + h) (by rw [zn_mul b 24, zn_add (b * 24) h]) (by omega) (by decide), ⟨zn_in (k := Pt b) (by rw [zn_mul b 24, zn_add (b * 24) h, zn_cl (n := (b * 24) + h) (by omega), e47]) (by omega) (by decide), ⟨zn_in (k := Pt b) (by rw [zn_mul b 24, zn_add (b * 24) h, zn_cl (n := (b * 24) + h) (by omega), e47]) (by omega) (by decide), trivial⟩⟩⟩ ?_
      rw [zn_mul b 24, zn_add (b * 24) h, zn_cl (n := (b * 24) + h) (by omega), e47, zn_cl (n := Pt b) (by omega), hB (Pt b) p2, zn_add (ycn n Pt b (Pt b)) 1]
      obtain ⟨μ1, hμ1⟩ : ∃ k9 : zq_Me, k9 = (zq_u1 μ 48 (Pt b) (nI ((ycn n Pt b (Pt b)) + 1))) := ⟨_, rfl⟩
      rw [← hμ1]
      have e48 : μ1.1 48 (Pt b) = nI (ycn n Pt b (Pt b) + 1) := by rw [hμ1, zq_u1_s]
      refine zq_go zt_X8_mostBedsInOneRoom 9 [vp_in (nI (Pt b)) 8] 13 [(0, .ref 0), (1, .int (nI h)), (2, .int (nI n)), (3, .int (if (nI (zmx (ycn n Pt b) 8)) < (μ1.1 48 ((nI (Pt b)).toNatClampNeg)) then (μ1.1 48 ((nI (Pt b)).toNatClampNeg)) else (nI (zmx (ycn n Pt b) 8)))), (4, .int ((nI b) + (nI 1))), (5, .int (nI (Pt b)))] [] μ1 rfl ⟨zn_in (k := Pt b) rfl (by omega) (by decide), trivial⟩ ?_
      rw [zn_cl (n := Pt b) (by omega), e48, zn_add b 1]
      rw [zmax (by omega) (by omega)]
      have h9 := ih (b + 1) μ1 (by omega) ⟨by rw [hμ1]; exact hF.u1 (by simp), fun r hr => by
        rw [hμ1, zq_u1_rd, ycn_t h7]
        by_cases q : r = Pt b
        · rw [if_pos q, if_pos q, q]
        · rw [if_neg q, if_neg q]; exact hB r hr⟩
      rw [zmx_up p2 (ycn_t h7)] at h9
      exact zq_drp [0, 1, 2, 3, 4] _ rfl h9
set_option maxRecDepth 100000 in
set_option maxHeartbeats 400000 in
theorem zs_mbr {n h : Nat} {Pt : Nat → Nat} {μ0 : zq_Me} (hn : n < 2 ^ 31) (hh : h < 24) (hA : ∀ u, u < 8 → μ0.1 47 (u * 24 + h) = nI (Pt u) ∧ Pt u < 8) : zq_Wp zn_X8_mostBedsInOneRoom 0 [(0, .ref 0), (1, .int (nI h)), (2, .int (nI n))] [] μ0 (fun r μ => r = some (.int (nI (ymb n Pt))) ∧ zq_fr [48] μ0 μ) := by
  refine zq_go zt_X8_mostBedsInOneRoom 3 [] 5 [(0, .ref 0), (1, .int (nI h)), (2, .int (nI n))] [.int (nI 0), .ref 48] μ0 rfl trivial ?_
  refine zq_call zt_X8_mostBedsInOneRoom [.ref 48, .int (nI 0)] [] (zs_fill48 (nI 0) μ0) rfl rfl ?_
  rintro _ μ1 ⟨rfl, f1, a1⟩
  refine zq_go zt_X8_mostBedsInOneRoom 4 [] 13 [(0, .ref 0), (1, .int (nI h)), (2, .int (nI n)), (3, .int (nI (zmx (ycn n Pt 0) 8))), (4, .int (nI 0))] [] μ1 rfl trivial ?_
  refine zq_Wp_mono (zs_mbr_l (Pt := Pt) hn hh (μ0 := μ1) (fun u hu => by rw [f1.a (b := 47) (by decide)]; exact hA u hu) 8 0 μ1 (by omega) ⟨zq_fr.rf, fun r hr => a1 r hr⟩) ?_
  rintro _ μ2 ⟨rfl, f2⟩
  exact ⟨rfl, f1.tr f2⟩
set_option maxRecDepth 100000 in
set_option maxHeartbeats 400000 in
theorem zs_ask_l {τ : zTd} {S : zES} {H : zSH} {μ0 : zq_Me} {k : Nat} (lk : k < ynp τ) : ∀ (j n : Nat) (μ : zq_Me), n + j = 24 → (zIc τ S H μ ∧ zq_fr zSC μ0 μ ∧ (∀ u h, u < 8 → h < 24 → μ.1 47 (u * 24 + h) = nI (ybh τ k u h))) → zq_Wp zn_X8_ask 26 [(0, .ref 0), (2, .int (nI (zm (ybe τ S k) 8))), (3, .int (nI ((yan2 (yaf τ S k) n).2))), (4, .int (nI ((yan2 (yaf τ S k) n).1))), (5, .int (nI n))] [] μ (zRc (.int (nI (yan2 (yaf τ S k) 24).2)) τ S H μ0) := by
  intro j
  induction j with
  | zero =>
    rintro n μ hij ⟨hI, hF, hA⟩
    obtain rfl : n = 24 := by omega
    refine zq_go zt_X8_ask 3 [] (if (nI 24) ≤ (nI 24) then 62 else 33) [(0, .ref 0), (2, .int (nI (zm (ybe τ S k) 8))), (3, .int (nI ((yan2 (yaf τ S k) 24).2))), (4, .int (nI ((yan2 (yaf τ S k) 24).1))), (5, .int (nI 24))] [] μ rfl trivial ?_
    rw [if_pos (by decide)]
    refine zq_go zt_X8_ask 1 [] 63 [(0, .ref 0), (2, .int (nI (zm (ybe τ S k) 8))), (3, .int (nI ((yan2 (yaf τ S k) 24).2))), (4, .int (nI ((yan2 (yaf τ S k) 24).1))), (5, .int (nI 24))] [.int (nI ((yan2 (yaf τ S k) 24).2))] μ rfl trivial ?_
    exact zq_retn zt_X8_ask rfl rfl (⟨rfl, hI, hF⟩)
  | succ j ih =>
    rintro n μ hij ⟨hI, hF, hA⟩
    have hn := hI.2.2.2.1.1.n
    obtain ⟨l1, l2, l3⟩ := yan2_le (yaf τ S k) (yaf_le τ S k) n
    have l4 := yaf_le τ S k n
    have hz : zm (ybe τ S k) 8 < 2 ^ 31 := Nat.lt_trans (zm_lt _ _) (by decide)
    refine zq_go zt_X8_ask 3 [] (if (nI 24) ≤ (nI n) then 62 else 33) [(0, .ref 0), (2, .int (nI (zm (ybe τ S k) 8))), (3, .int (nI ((yan2 (yaf τ S k) n).2))), (4, .int (nI ((yan2 (yaf τ S k) n).1))), (5, .int (nI n))] [] μ rfl trivial ?_
    rw [if_neg (by rw [zn_le (by omega) (by omega)]; omega)]
    refine zq_go zt_X8_ask 3 [] 37 [(0, .ref 0), (2, .int (nI (zm (ybe τ S k) 8))), (3, .int (nI ((yan2 (yaf τ S k) n).2))), (4, .int (nI ((yan2 (yaf τ S k) n).1))), (5, .int (nI n))] [.int (nI (zm (ybe τ S k) 8)), .int (nI n), .ref 0] μ rfl trivial ?_
    refine zq_call zt_X8_ask [.ref 0, .int (nI n), .int (nI (zm (ybe τ S k) 8))] [] (show zq_Wp zn_X8_mostBedsInOneRoom 0 [(0, .ref 0), (1, .int (nI n)), (2, .int (nI (zm (ybe τ S k) 8)))] [] μ (fun r μ1 => r = some (.int (nI (yaf τ S k n))) ∧ zq_fr [48] μ μ1) from zs_mbr (Pt := fun u => ybh τ k u n) hz (show n < 24 by omega) (fun u hu => ⟨hA u n hu (by omega), ybh_lt hn lk hu (by omega)⟩)) rfl rfl ?_
    rintro _ μ1 ⟨rfl, f1⟩
    have hI1 : zIc τ S H μ1 := hI.tr (f1.wk (by simp)) ⟨by rw [f1.a (b := 40) (by decide)]; exact hI.2.2.2.2.2.1.1, by unfold zK40; rw [f1.a (b := 46) (by decide), f1.a (b := 45) (by decide)]; exact hI.2.2.2.2.2.1.2⟩
    have hA1 : (∀ u h, u < 8 → h < 24 → μ1.1 47 (u * 24 + h) = nI (ybh τ k u h)) := fun u h hu hh => by rw [f1.a (b := 47) (by decide)]; exact hA u h hu hh
    refine zq_go zt_X8_ask 4 [] (if (nI ((yan2 (yaf τ S k) n).1)) ≤ (nI (yaf τ S k n)) then 56 else 49) [(0, .ref 0), (2, .int (nI (zm (ybe τ S k) 8))), (3, .int (nI ((yan2 (yaf τ S k) n).2))), (4, .int (nI ((yan2 (yaf τ S k) n).1))), (5, .int (nI n)), (6, .int (nI (yaf τ S k n)))] [] μ1 rfl trivial ?_
    refine zq_ite (fun h23 => ?_) (fun h23 => ?_)
    · rw [zn_le (by omega) (by omega)] at h23
      refine zq_go zt_X8_ask 2 [] 26 [(0, .ref 0), (2, .int (nI (zm (ybe τ S k) 8))), (3, .int (nI ((yan2 (yaf τ S k) n).2))), (4, .int (nI ((yan2 (yaf τ S k) n).1))), (5, .int ((nI n) + (nI 1))), (6, .int (nI (yaf τ S k n)))] [] μ1 rfl trivial ?_
      rw [zn_add n 1]
      have h9 := ih (n + 1) μ1 (by omega) ⟨hI1, hF.tr (f1.wk (by simp [zSC])), hA1⟩
      rw [yan2_s, if_neg (by omega)] at h9
      exact zq_drp [0, 2, 3, 4, 5] _ rfl h9
    · rw [zn_le (by omega) (by omega)] at h23
      refine zq_go zt_X8_ask 6 [] 26 [(0, .ref 0), (2, .int (nI (zm (ybe τ S k) 8))), (3, .int (nI n)), (4, .int (nI (yaf τ S k n))), (5, .int ((nI n) + (nI 1))), (6, .int (nI (yaf τ S k n)))] [] μ1 rfl trivial ?_
      rw [zn_add n 1]
      have h9 := ih (n + 1) μ1 (by omega) ⟨hI1, hF.tr (f1.wk (by simp [zSC])), hA1⟩
      rw [yan2_s, if_pos (by omega)] at h9
      exact zq_drp [0, 2, 3, 4, 5] _ rfl h9
set_option maxRecDepth 100000 in
set_option maxHeartbeats 400000 in
theorem zs_ask {τ : zTd} {S : zES} {H : zSH} {μ0 : zq_Me} {k : Nat} (lk : k < ynp τ) (hC : zIc τ S H μ0) : zq_Wp zn_X8_ask 0 [(0, .ref 0), (1, .int (nI k))] [] μ0 (zRc (.int (nI (yan2 (yaf τ S k) 24).2)) τ S H μ0) := by
  have hnp := hC.2.1.2.1
  refine zq_go zt_X8_ask 2 [] 2 [(0, .ref 0), (1, .int (nI k))] [.int (nI k), .ref 0] μ0 rfl trivial ?_
  refine zq_call zt_X8_ask [.ref 0, .int (nI k)] [] (zs_isPerson (nI k) hC) rfl rfl ?_
  rintro _ _ ⟨rfl, rfl⟩
  refine zq_go zt_X8_ask 1 [] (if ¬ (zb (0 ≤ nI k ∧ nI k ≤ nI (ynp τ) - nI 1)) = 0 then 11 else 8) [(0, .ref 0), (1, .int (nI k))] [] μ0 rfl trivial ?_
  rw [if_pos (zb_n (yip (by omega) (by omega)))]
  refine zq_go zt_X8_ask 2 [] 13 [(0, .ref 0), (1, .int (nI k))] [.int (nI k), .ref 0] μ0 rfl trivial ?_
  refine zq_call zt_X8_ask [.ref 0, .int (nI k)] [] (zs_beds lk hC) rfl rfl ?_
  rintro _ μ1 ⟨rfl, hC1, f1, hA⟩
  refine zq_go zt_X8_ask 7 [] 26 [(0, .ref 0), (1, .int (nI k)), (2, .int (nI (zm (ybe τ S k) 8))), (3, .int (nI 0)), (4, .int (nI 9)), (5, .int (nI 0))] [] μ1 rfl trivial ?_
  exact zq_drp [0, 2, 3, 4, 5] _ rfl (zs_ask_l lk 24 0 μ1 (by omega) ⟨hC1, f1, hA⟩)
set_option maxRecDepth 100000 in
set_option maxHeartbeats 400000 in
theorem zs_askm_b {Q : zq_Post} {n h : Nat} {x3 x4 : Int32} {Pt : Nat → Nat} {μ : zq_Me} (hn : n < 2 ^ 31) (hh : h < 24) (hA : (∀ u, u < 8 → μ.1 71 (24 * u + h) = nI (Pt u) ∧ Pt u < 8)) {x6 : Int32} {a : Nat} (la : a < 8) (kk : zq_Wp zn_X9_askOf 110 [(0, .ref 50), (2, .int (nI n)), (3, .int x3), (4, .int x4), (5, .int (nI h)), (6, .int x6), (7, .int (nI a)), (8, .int (nI (yga n Pt a 8)))] [] μ Q) : ∀ (j b : Nat), b + j = 8 → zq_Wp zn_X9_askOf 40 [(0, .ref 50), (2, .int (nI n)), (3, .int x3), (4, .int x4), (5, .int (nI h)), (6, .int x6), (7, .int (nI a)), (8, .int (nI (yga n Pt a b))), (9, .int (nI b))] [] μ Q := by
  intro j
  induction j with
  | zero =>
    intro b hij
    obtain rfl : b = 8 := by omega
    refine zq_go zt_X9_askOf 3 [] (if (nI 8) ≤ (nI 8) then 110 else 47) [(0, .ref 50), (2, .int (nI n)), (3, .int x3), (4, .int x4), (5, .int (nI h)), (6, .int x6), (7, .int (nI a)), (8, .int (nI (yga n Pt a 8))), (9, .int (nI 8))] [] μ rfl trivial ?_
    rw [if_pos (by decide)]
    exact zq_drp [0, 2, 3, 4, 5, 6, 7, 8] _ rfl kk
  | succ j ih =>
    intro b hij
    obtain ⟨p1, p2⟩ := hA a la
    obtain ⟨p3, p4⟩ := hA b (by omega)
    have es : yga n Pt a (b + 1) = yga n Pt a b + (if (n.testBit a && n.testBit b && decide (Pt a = Pt b)) = true then 1 else 0) := rfl
    refine zq_go zt_X9_askOf 3 [] (if (nI 8) ≤ (nI b) then 110 else 47) [(0, .ref 50), (2, .int (nI n)), (3, .int x3), (4, .int x4), (5, .int (nI h)), (6, .int x6), (7, .int (nI a)), (8, .int (nI (yga n Pt a b))), (9, .int (nI b))] [] μ rfl trivial ?_
    rw [if_neg (by rw [zn_le (by omega) (by omega)]; omega)]
    refine zq_go zt_X9_askOf 3 [] 52 [(0, .ref 50), (2, .int (nI n)), (3, .int x3), (4, .int x4), (5, .int (nI h)), (6, .int x6), (7, .int (nI a)), (8, .int (nI (yga n Pt a b))), (9, .int (nI b))] [.int (nI a), .int (nI n), .int (nI (yga n Pt a b))] μ rfl trivial ?_
    refine zq_call zt_X9_askOf [.int (nI n), .int (nI a)] [.int (nI (yga n Pt a b))] (zs_isIn n a hn (by omega) μ) rfl rfl ?_
    rintro _ _ ⟨rfl, rfl⟩
    refine zq_go zt_X9_askOf 1 [] (if (zB (n.testBit a)) = 0 then 100 else 58) [(0, .ref 50), (2, .int (nI n)), (3, .int x3), (4, .int x4), (5, .int (nI h)), (6, .int x6), (7, .int (nI a)), (8, .int (nI (yga n Pt a b))), (9, .int (nI b))] [.int (nI (yga n Pt a b))] μ rfl trivial ?_
    refine zq_ite (fun h19 => ?_) (fun h19 => ?_)
    · have h7 := zB_f h19
      have h9 := ih (b + 1) (by omega)
      rw [es, h7, Bool.false_and, Bool.false_and, if_neg (by decide)] at h9
      refine zq_go zt_X9_askOf 5 [] 40 [(0, .ref 50), (2, .int (nI n)), (3, .int x3), (4, .int x4), (5, .int (nI h)), (6, .int x6), (7, .int (nI a)), (8, .int ((nI (yga n Pt a b)) + (nI 0))), (9, .int ((nI b) + (nI 1)))] [] μ rfl trivial ?_
      rw [zn_add (yga n Pt a b) 0, zn_add b 1]
      exact h9
    · have h7 := zB_t h19
      refine zq_go zt_X9_askOf 2 [] 61 [(0, .ref 50), (2, .int (nI n)), (3, .int x3), (4, .int x4), (5, .int (nI h)), (6, .int x6), (7, .int (nI a)), (8, .int (nI (yga n Pt a b))), (9, .int (nI b))] [.int (nI b), .int (nI n), .int (nI (yga n Pt a b))] μ rfl trivial ?_
      refine zq_call zt_X9_askOf [.int (nI n), .int (nI b)] [.int (nI (yga n Pt a b))] (zs_isIn n b hn (by omega) μ) rfl rfl ?_
      rintro _ _ ⟨rfl, rfl⟩
      refine zq_go zt_X9_askOf 1 [] (if (zB (n.testBit b)) = 0 then 100 else 67) [(0, .ref 50), (2, .int (nI n)), (3, .int x3), (4, .int x4), (5, .int (nI h)), (6, .int x6), (7, .int (nI a)), (8, .int (nI (yga n Pt a b))), (9, .int (nI b))] [.int (nI (yga n Pt a b))] μ rfl trivial ?_
      refine zq_ite (fun h31 => ?_) (fun h31 => ?_)
      · have h8 := zB_f h31
        have h9 := ih (b + 1) (by omega)
        rw [es, h8, Bool.and_false, Bool.false_and, if_neg (by decide)] at h9
        refine zq_go zt_X9_askOf 5 [] 40 [(0, .ref 50), (2, .int (nI n)), (3, .int x3), (4, .int x4), (5, .int (nI h)), (6, .int x6), (7, .int (nI a)), (8, .int ((nI (yga n Pt a b)) + (nI 0))), (9, .int ((nI b) + (nI 1)))] [] μ rfl trivial ?_
        rw [zn_add (yga n Pt a b) 0, zn_add b 1]
        exact h9
      · have h8 := zB_t h31
        refine zq_go zt_X9_askOf 17 [vp_in (((nI 24) * (nI a)) + (nI h)) 192, vp_in (((nI 24) * (nI b)) + (nI h)) 192] (if ¬ (μ.1 71 ((((nI 24) * (nI a)) + (nI h)).toNatClampNeg)) = (μ.1 71 ((((nI 24) * (nI b)) + (nI h)).toNatClampNeg)) then 100 else 96) [(0, .ref 50), (2, .int (nI n)), (3, .int x3), (4, .int x4), (5, .int (nI h)), (6, .int x6), (7, .int (nI a)), (8, .int (nI (yga n Pt a b))), (9, .int (nI b))] [.int (nI (yga n Pt a b))] μ rfl ⟨zn_in (k := (24 * a) + h) (by rw [zn_mul 24 a, zn_add (24 * a) h]) (by omega) (by decide), ⟨zn_in (k := (24 * b) + h) (by rw [zn_mul 24 b, zn_add (24 * b) h]) (by omega) (by decide), trivial⟩⟩ ?_
        rw [zn_mul 24 a, zn_add (24 * a) h, zn_cl (n := (24 * a) + h) (by omega), p1, zn_mul 24 b, zn_add (24 * b) h, zn_cl (n := (24 * b) + h) (by omega), p3]
        refine zq_ite (fun h41 => ?_) (fun h41 => ?_)
        · rw [zn_eq (by omega) (by omega)] at h41
          have h9 := ih (b + 1) (by omega)
          rw [es, decide_eq_false h41, Bool.and_false, if_neg (by decide)] at h9
          refine zq_go zt_X9_askOf 5 [] 40 [(0, .ref 50), (2, .int (nI n)), (3, .int x3), (4, .int x4), (5, .int (nI h)), (6, .int x6), (7, .int (nI a)), (8, .int ((nI (yga n Pt a b)) + (nI 0))), (9, .int ((nI b) + (nI 1)))] [] μ rfl trivial ?_
          rw [zn_add (yga n Pt a b) 0, zn_add b 1]
          exact h9
        · rw [zn_eq (by omega) (by omega)] at h41
          have h9 := ih (b + 1) (by omega)
          rw [es, h7, h8, decide_eq_true (Classical.not_not.mp h41), if_pos (show (true && true && true) = true from rfl)] at h9
          refine zq_go zt_X9_askOf 2 [] 101 [(0, .ref 50), (2, .int (nI n)), (3, .int x3), (4, .int x4), (5, .int (nI h)), (6, .int x6), (7, .int (nI a)), (8, .int (nI (yga n Pt a b))), (9, .int (nI b))] [.int (nI 1), .int (nI (yga n Pt a b))] μ rfl trivial ?_
          refine zq_go zt_X9_askOf 4 [] 40 [(0, .ref 50), (2, .int (nI n)), (3, .int x3), (4, .int x4), (5, .int (nI h)), (6, .int x6), (7, .int (nI a)), (8, .int ((nI (yga n Pt a b)) + (nI 1))), (9, .int ((nI b) + (nI 1)))] [] μ rfl trivial ?_
          rw [zn_add (yga n Pt a b) 1, zn_add b 1]
          exact h9
set_option maxRecDepth 100000 in
set_option maxHeartbeats 400000 in
theorem zs_askm_a {Q : zq_Post} {n h : Nat} {x3 x4 : Int32} {Pt : Nat → Nat} {μ : zq_Me} (hn : n < 2 ^ 31) (hh : h < 24) (hA : (∀ u, u < 8 → μ.1 71 (24 * u + h) = nI (Pt u) ∧ Pt u < 8)) (kk : zq_Wp zn_X9_askOf 132 [(0, .ref 50), (2, .int (nI n)), (3, .int x3), (4, .int x4), (5, .int (nI h)), (6, .int (nI (zmx (fun a => yga n Pt a 8) 8)))] [] μ Q) : ∀ (j a : Nat), a + j = 8 → zq_Wp zn_X9_askOf 27 [(0, .ref 50), (2, .int (nI n)), (3, .int x3), (4, .int x4), (5, .int (nI h)), (6, .int (nI (zmx (fun a => yga n Pt a 8) a))), (7, .int (nI a))] [] μ Q := by
  intro j
  induction j with
  | zero =>
    intro a hij
    obtain rfl : a = 8 := by omega
    refine zq_go zt_X9_askOf 3 [] (if (nI 8) ≤ (nI 8) then 132 else 34) [(0, .ref 50), (2, .int (nI n)), (3, .int x3), (4, .int x4), (5, .int (nI h)), (6, .int (nI (zmx (fun a => yga n Pt a 8) 8))), (7, .int (nI 8))] [] μ rfl trivial ?_
    rw [if_pos (by decide)]
    exact zq_drp [0, 2, 3, 4, 5, 6] _ rfl kk
  | succ j ih =>
    intro a hij
    have m1 : zmx (fun a => yga n Pt a 8) a ≤ 8 := zmx_le (fun i => zc_le _ _) a
    have m2 : yga n Pt a 8 ≤ 8 := zc_le _ _
    have es : zmx (fun a => yga n Pt a 8) (a + 1) = if zmx (fun a => yga n Pt a 8) a < yga n Pt a 8 then yga n Pt a 8 else zmx (fun a => yga n Pt a 8) a := zmx_s _ _
    refine zq_go zt_X9_askOf 3 [] (if (nI 8) ≤ (nI a) then 132 else 34) [(0, .ref 50), (2, .int (nI n)), (3, .int x3), (4, .int x4), (5, .int (nI h)), (6, .int (nI (zmx (fun a => yga n Pt a 8) a))), (7, .int (nI a))] [] μ rfl trivial ?_
    rw [if_neg (by rw [zn_le (by omega) (by omega)]; omega)]
    refine zq_go zt_X9_askOf 4 [] 40 [(0, .ref 50), (2, .int (nI n)), (3, .int x3), (4, .int x4), (5, .int (nI h)), (6, .int (nI (zmx (fun a => yga n Pt a 8) a))), (7, .int (nI a)), (8, .int (nI 0)), (9, .int (nI 0))] [] μ rfl trivial ?_
    refine zs_askm_b hn hh hA (show a < 8 by omega) ?_ 8 0 (by omega)
    refine zq_go zt_X9_askOf 3 [] (if (nI (yga n Pt a 8)) ≤ (nI (zmx (fun a => yga n Pt a 8) a)) then 122 else 117) [(0, .ref 50), (2, .int (nI n)), (3, .int x3), (4, .int x4), (5, .int (nI h)), (6, .int (nI (zmx (fun a => yga n Pt a 8) a))), (7, .int (nI a)), (8, .int (nI (yga n Pt a 8)))] [] μ rfl trivial ?_
    refine zq_ite (fun h18 => ?_) (fun h18 => ?_)
    · rw [zn_le (by omega) (by omega)] at h18
      refine zq_go zt_X9_askOf 4 [] 27 [(0, .ref 50), (2, .int (nI n)), (3, .int x3), (4, .int x4), (5, .int (nI h)), (6, .int (nI (zmx (fun a => yga n Pt a 8) a))), (7, .int ((nI a) + (nI 1))), (8, .int (nI (yga n Pt a 8)))] [] μ rfl trivial ?_
      rw [zn_add a 1]
      have h9 := ih (a + 1) (by omega)
      rw [es, if_neg (by omega)] at h9
      exact zq_drp [0, 2, 3, 4, 5, 6, 7] _ rfl h9
    · rw [zn_le (by omega) (by omega)] at h18
      refine zq_go zt_X9_askOf 2 [] 124 [(0, .ref 50), (2, .int (nI n)), (3, .int x3), (4, .int x4), (5, .int (nI h)), (6, .int (nI (zmx (fun a => yga n Pt a 8) a))), (7, .int (nI a)), (8, .int (nI (yga n Pt a 8)))] [.int (nI (yga n Pt a 8))] μ rfl trivial ?_
      refine zq_go zt_X9_askOf 3 [] 27 [(0, .ref 50), (2, .int (nI n)), (3, .int x3), (4, .int x4), (5, .int (nI h)), (6, .int (nI (yga n Pt a 8))), (7, .int ((nI a) + (nI 1))), (8, .int (nI (yga n Pt a 8)))] [] μ rfl trivial ?_
      rw [zn_add a 1]
      have h9 := ih (a + 1) (by omega)
      rw [es, if_pos (by omega)] at h9
      exact zq_drp [0, 2, 3, 4, 5, 6, 7] _ rfl h9
set_option maxRecDepth 100000 in
set_option maxHeartbeats 400000 in
theorem zs_askm_h {τ : zTd} {S : zES} {k : Nat} {μ : zq_Me} (hn : zEn (yne τ) (yek τ) (yen τ)) (lk : k < ynp τ) (hA : (∀ u h, u < 8 → h < 24 → μ.1 71 (24 * u + h) = nI (ybh τ k u h))) : ∀ (j n : Nat), n + j = 24 → zq_Wp zn_X9_askOf 14 [(0, .ref 50), (2, .int (nI (zm (ybe τ S k) 8))), (3, .int (zdn (yb2 (yaf τ S k) n))), (4, .int (nI (yl2 (yaf τ S k) n))), (5, .int (nI n))] [] μ (zq_pi (nI (yan2 (yaf τ S k) 24).2) μ) := by
  intro j
  induction j with
  | zero =>
    intro n hij
    obtain rfl : n = 24 := by omega
    refine zq_go zt_X9_askOf 3 [] (if (nI 24) ≤ (nI 24) then 183 else 21) [(0, .ref 50), (2, .int (nI (zm (ybe τ S k) 8))), (3, .int (zdn (yb2 (yaf τ S k) 24))), (4, .int (nI (yl2 (yaf τ S k) 24))), (5, .int (nI 24))] [] μ rfl trivial ?_
    rw [if_pos (by decide)]
    refine zq_go zt_X9_askOf 1 [] 184 [(0, .ref 50), (2, .int (nI (zm (ybe τ S k) 8))), (3, .int (zdn (yb2 (yaf τ S k) 24))), (4, .int (nI (yl2 (yaf τ S k) 24))), (5, .int (nI 24))] [.int (zdn (yb2 (yaf τ S k) 24))] μ rfl trivial ?_
    exact zq_retn zt_X9_askOf rfl rfl (⟨rfl, rfl⟩)
  | succ j ih =>
    intro n hij
    obtain ⟨l1, l2, l3⟩ := yan2_le (yaf τ S k) (yaf_le τ S k) n
    have l4 := yaf_le τ S k n
    have hz : zm (ybe τ S k) 8 < 2 ^ 31 := Nat.lt_trans (zm_lt _ _) (by decide)
    have hA9 : ∀ u, u < 8 → μ.1 71 (24 * u + n) = nI ((fun u => ybh τ k u n) u) ∧ (fun u => ybh τ k u n) u < 8 := fun u hu => ⟨hA u n hu (by omega), ybh_lt hn lk hu (by omega)⟩
    have eq9 : zmx (fun a => yga (zm (ybe τ S k) 8) (fun u => ybh τ k u n) a 8) 8 = yaf τ S k n := yga_eq (fun u hu => ybh_lt hn lk hu (by omega))
    have hb : yb2 (yaf τ S k) n ≤ 25 := by unfold yb2; split <;> omega
    have hl : yl2 (yaf τ S k) n ≤ 9 := by unfold yl2; split <;> omega
    have hb0 : yb2 (yaf τ S k) n = 0 ↔ n = 0 := by unfold yb2; split <;> omega
    have hl0 : ¬ n = 0 → yl2 (yaf τ S k) n = (yan2 (yaf τ S k) n).1 := fun q => if_neg q
    refine zq_go zt_X9_askOf 3 [] (if (nI 24) ≤ (nI n) then 183 else 21) [(0, .ref 50), (2, .int (nI (zm (ybe τ S k) 8))), (3, .int (zdn (yb2 (yaf τ S k) n))), (4, .int (nI (yl2 (yaf τ S k) n))), (5, .int (nI n))] [] μ rfl trivial ?_
    rw [if_neg (by rw [zn_le (by omega) (by omega)]; omega)]
    refine zq_go zt_X9_askOf 4 [] 27 [(0, .ref 50), (2, .int (nI (zm (ybe τ S k) 8))), (3, .int (zdn (yb2 (yaf τ S k) n))), (4, .int (nI (yl2 (yaf τ S k) n))), (5, .int (nI n)), (6, .int (nI 0)), (7, .int (nI 0))] [] μ rfl trivial ?_
    refine zs_askm_a (Pt := fun u => ybh τ k u n) hz (show n < 24 by omega) hA9 ?_ 8 0 (by omega)
    rw [eq9]
    refine zq_go zt_X9_askOf 3 [] (if (zdn (yb2 (yaf τ S k) n)) = (-1) then 144 else 137) [(0, .ref 50), (2, .int (nI (zm (ybe τ S k) 8))), (3, .int (zdn (yb2 (yaf τ S k) n))), (4, .int (nI (yl2 (yaf τ S k) n))), (5, .int (nI n)), (6, .int (nI (yaf τ S k n)))] [] μ rfl trivial ?_
    refine zq_ite (fun h26 => ?_) (fun h26 => ?_)
    · rw [zdn_m1 (by omega)] at h26
      obtain ⟨e1, e2⟩ := yb2_y (f := yaf τ S k) (n := n) (by have h0 := hb0.mp h26; subst h0; show yaf τ S k 0 < 9; omega)
      refine zq_go zt_X9_askOf 2 [] 149 [(0, .ref 50), (2, .int (nI (zm (ybe τ S k) 8))), (3, .int (zdn (yb2 (yaf τ S k) n))), (4, .int (nI (yl2 (yaf τ S k) n))), (5, .int (nI n)), (6, .int (nI (yaf τ S k n)))] [.int (nI 1)] μ rfl trivial ?_
      refine zq_go zt_X9_askOf 2 [] 153 [(0, .ref 50), (2, .int (nI (zm (ybe τ S k) 8))), (3, .int (zdn (yb2 (yaf τ S k) n))), (4, .int (nI (yl2 (yaf τ S k) n))), (5, .int (nI n)), (6, .int (nI (yaf τ S k n))), (7, .int (nI 1))] [.int (nI 1)] μ rfl trivial ?_
      refine zq_go zt_X9_askOf 1 [] (if (nI 1) = 0 then 161 else 156) [(0, .ref 50), (2, .int (nI (zm (ybe τ S k) 8))), (3, .int (zdn (yb2 (yaf τ S k) n))), (4, .int (nI (yl2 (yaf τ S k) n))), (5, .int (nI n)), (6, .int (nI (yaf τ S k n))), (7, .int (nI 1))] [] μ rfl trivial ?_
      rw [if_neg (by decide)]
      refine zq_go zt_X9_askOf 2 [] 162 [(0, .ref 50), (2, .int (nI (zm (ybe τ S k) 8))), (3, .int (zdn (yb2 (yaf τ S k) n))), (4, .int (nI (yl2 (yaf τ S k) n))), (5, .int (nI n)), (6, .int (nI (yaf τ S k n))), (7, .int (nI 1))] [.int (nI n)] μ rfl trivial ?_
      refine zq_go zt_X9_askOf 3 [] (if (nI 1) = 0 then 173 else 168) [(0, .ref 50), (2, .int (nI (zm (ybe τ S k) 8))), (3, .int (nI n)), (4, .int (nI (yl2 (yaf τ S k) n))), (5, .int (nI n)), (6, .int (nI (yaf τ S k n))), (7, .int (nI 1))] [] μ rfl trivial ?_
      rw [if_neg (by decide)]
      refine zq_go zt_X9_askOf 2 [] 175 [(0, .ref 50), (2, .int (nI (zm (ybe τ S k) 8))), (3, .int (nI n)), (4, .int (nI (yl2 (yaf τ S k) n))), (5, .int (nI n)), (6, .int (nI (yaf τ S k n))), (7, .int (nI 1))] [.int (nI (yaf τ S k n))] μ rfl trivial ?_
      refine zq_go zt_X9_askOf 3 [] 14 [(0, .ref 50), (2, .int (nI (zm (ybe τ S k) 8))), (3, .int (nI n)), (4, .int (nI (yaf τ S k n))), (5, .int ((nI n) + (nI 1))), (6, .int (nI (yaf τ S k n))), (7, .int (nI 1))] [] μ rfl trivial ?_
      rw [zn_add n 1]
      have h9 := ih (n + 1) (by omega)
      rw [e1, e2] at h9
      exact zq_drp [0, 2, 3, 4, 5] _ rfl h9
    · rw [zdn_m1 (by omega)] at h26
      have h0 : ¬ n = 0 := fun q => h26 (hb0.mpr q)
      have h5 := hl0 h0
      refine zq_go zt_X9_askOf 3 [] (if (nI (yl2 (yaf τ S k) n)) ≤ (nI (yaf τ S k n)) then 148 else 144) [(0, .ref 50), (2, .int (nI (zm (ybe τ S k) 8))), (3, .int (zdn (yb2 (yaf τ S k) n))), (4, .int (nI (yl2 (yaf τ S k) n))), (5, .int (nI n)), (6, .int (nI (yaf τ S k n)))] [] μ rfl trivial ?_
      refine zq_ite (fun h46 => ?_) (fun h46 => ?_)
      · rw [zn_le (by omega) (by omega)] at h46
        obtain ⟨e1, e2⟩ := yb2_n (f := yaf τ S k) h0 (by omega)
        refine zq_go zt_X9_askOf 3 [] 153 [(0, .ref 50), (2, .int (nI (zm (ybe τ S k) 8))), (3, .int (zdn (yb2 (yaf τ S k) n))), (4, .int (nI (yl2 (yaf τ S k) n))), (5, .int (nI n)), (6, .int (nI (yaf τ S k n))), (7, .int (nI 0))] [.int (nI 0)] μ rfl trivial ?_
        refine zq_go zt_X9_askOf 1 [] (if (nI 0) = 0 then 161 else 156) [(0, .ref 50), (2, .int (nI (zm (ybe τ S k) 8))), (3, .int (zdn (yb2 (yaf τ S k) n))), (4, .int (nI (yl2 (yaf τ S k) n))), (5, .int (nI n)), (6, .int (nI (yaf τ S k n))), (7, .int (nI 0))] [] μ rfl trivial ?_
        rw [if_pos (by decide)]
        refine zq_go zt_X9_askOf 4 [] (if (nI 0) = 0 then 173 else 168) [(0, .ref 50), (2, .int (nI (zm (ybe τ S k) 8))), (3, .int (zdn (yb2 (yaf τ S k) n))), (4, .int (nI (yl2 (yaf τ S k) n))), (5, .int (nI n)), (6, .int (nI (yaf τ S k n))), (7, .int (nI 0))] [] μ rfl trivial ?_
        rw [if_pos (by decide)]
        refine zq_go zt_X9_askOf 4 [] 14 [(0, .ref 50), (2, .int (nI (zm (ybe τ S k) 8))), (3, .int (zdn (yb2 (yaf τ S k) n))), (4, .int (nI (yl2 (yaf τ S k) n))), (5, .int ((nI n) + (nI 1))), (6, .int (nI (yaf τ S k n))), (7, .int (nI 0))] [] μ rfl trivial ?_
        rw [zn_add n 1]
        have h9 := ih (n + 1) (by omega)
        rw [e1, e2] at h9
        exact zq_drp [0, 2, 3, 4, 5] _ rfl h9
      · rw [zn_le (by omega) (by omega)] at h46
        obtain ⟨e1, e2⟩ := yb2_y (f := yaf τ S k) (n := n) (by omega)
        refine zq_go zt_X9_askOf 2 [] 149 [(0, .ref 50), (2, .int (nI (zm (ybe τ S k) 8))), (3, .int (zdn (yb2 (yaf τ S k) n))), (4, .int (nI (yl2 (yaf τ S k) n))), (5, .int (nI n)), (6, .int (nI (yaf τ S k n)))] [.int (nI 1)] μ rfl trivial ?_
        refine zq_go zt_X9_askOf 2 [] 153 [(0, .ref 50), (2, .int (nI (zm (ybe τ S k) 8))), (3, .int (zdn (yb2 (yaf τ S k) n))), (4, .int (nI (yl2 (yaf τ S k) n))), (5, .int (nI n)), (6, .int (nI (yaf τ S k n))), (7, .int (nI 1))] [.int (nI 1)] μ rfl trivial ?_
        refine zq_go zt_X9_askOf 1 [] (if (nI 1) = 0 then 161 else 156) [(0, .ref 50), (2, .int (nI (zm (ybe τ S k) 8))), (3, .int (zdn (yb2 (yaf τ S k) n))), (4, .int (nI (yl2 (yaf τ S k) n))), (5, .int (nI n)), (6, .int (nI (yaf τ S k n))), (7, .int (nI 1))] [] μ rfl trivial ?_
        rw [if_neg (by decide)]
        refine zq_go zt_X9_askOf 2 [] 162 [(0, .ref 50), (2, .int (nI (zm (ybe τ S k) 8))), (3, .int (zdn (yb2 (yaf τ S k) n))), (4, .int (nI (yl2 (yaf τ S k) n))), (5, .int (nI n)), (6, .int (nI (yaf τ S k n))), (7, .int (nI 1))] [.int (nI n)] μ rfl trivial ?_
        refine zq_go zt_X9_askOf 3 [] (if (nI 1) = 0 then 173 else 168) [(0, .ref 50), (2, .int (nI (zm (ybe τ S k) 8))), (3, .int (nI n)), (4, .int (nI (yl2 (yaf τ S k) n))), (5, .int (nI n)), (6, .int (nI (yaf τ S k n))), (7, .int (nI 1))] [] μ rfl trivial ?_
        rw [if_neg (by decide)]
        refine zq_go zt_X9_askOf 2 [] 175 [(0, .ref 50), (2, .int (nI (zm (ybe τ S k) 8))), (3, .int (nI n)), (4, .int (nI (yl2 (yaf τ S k) n))), (5, .int (nI n)), (6, .int (nI (yaf τ S k n))), (7, .int (nI 1))] [.int (nI (yaf τ S k n))] μ rfl trivial ?_
        refine zq_go zt_X9_askOf 3 [] 14 [(0, .ref 50), (2, .int (nI (zm (ybe τ S k) 8))), (3, .int (nI n)), (4, .int (nI (yaf τ S k n))), (5, .int ((nI n) + (nI 1))), (6, .int (nI (yaf τ S k n))), (7, .int (nI 1))] [] μ rfl trivial ?_
        rw [zn_add n 1]
        have h9 := ih (n + 1) (by omega)
        rw [e1, e2] at h9
        exact zq_drp [0, 2, 3, 4, 5] _ rfl h9
set_option maxRecDepth 100000 in
set_option maxHeartbeats 400000 in
theorem zs_askOf {τ : zTd} {S : zES} {H : zSH} {μ0 : zq_Me} {k : Nat} (lk : k < ynp τ) (hM : zIm τ S H μ0) : zq_Wp zn_X9_askOf 0 [(0, .ref 50), (1, .int (nI k))] [] μ0 (zRm' (.int (nI (yan2 (yaf τ S k) 24).2)) τ S H μ0) := by
  refine zq_go zt_X9_askOf 2 [] 2 [(0, .ref 50), (1, .int (nI k))] [.int (nI k), .ref 50] μ0 rfl trivial ?_
  refine zq_call zt_X9_askOf [.ref 50, .int (nI k)] [] (zs_bedsBy lk hM) rfl rfl ?_
  rintro _ ν1 ⟨rfl, n1, k1, hA⟩
  refine zq_go zt_X9_askOf 7 [] 14 [(0, .ref 50), (1, .int (nI k)), (2, .int (nI (zm (ybe τ S k) 8))), (3, .int (-1)), (4, .int (nI 0)), (5, .int (nI 0))] [] ν1 rfl trivial ?_
  refine zq_drp [0, 2, 3, 4, 5] _ rfl (zq_Wp_mono (zs_askm_h n1.2.2.1.1.n lk hA 24 0 (by omega)) ?_)
  rintro _ _ ⟨rfl, rfl⟩
  exact ⟨rfl, n1, k1⟩
set_option maxRecDepth 100000 in
set_option maxHeartbeats 400000 in
theorem zs_askm {τ : zTd} {S : zES} {H : zSH} {μ0 : zq_Me} {k : Nat} (lk : k < ynp τ) (hM : zIm τ S H μ0) : zq_Wp zn_X9_ask 0 [(0, .ref 50), (1, .int (nI k))] [] μ0 (zRm' (.int (nI (yan2 (yaf τ S k) 24).2)) τ S H μ0) := by
  refine zq_go zt_X9_ask 2 [] 2 [(0, .ref 50), (1, .int (nI k))] [.int (nI k), .ref 50] μ0 rfl trivial ?_
  refine zq_call zt_X9_ask [.ref 50, .int (nI k)] [] (zs_isPersonm (nI k) hM) rfl rfl ?_
  rintro _ ν0 ⟨rfl, n0, k0, d0, p0⟩
  have hnp := p0.1
  refine zq_go zt_X9_ask 1 [] (if (zb (0 ≤ (nI k) ∧ (nI k) ≤ nI (ynp τ) - nI 1)) = 0 then 16 else 8) [(0, .ref 50), (1, .int (nI k))] [] ν0 rfl trivial ?_
  rw [if_neg (zb_n (yip lk (by omega)))]
  refine zq_go zt_X9_ask 2 [] 10 [(0, .ref 50), (1, .int (nI k))] [.int (nI k), .ref 50] ν0 rfl trivial ?_
  refine zq_call zt_X9_ask [.ref 50, .int (nI k)] [] (zs_askOf lk n0) rfl rfl ?_
  rintro _ ν1 ⟨rfl, n1, k1⟩
  refine zq_go zt_X9_ask 1 [] 18 [(0, .ref 50), (1, .int (nI k))] [.int (nI ((yan2 (yaf τ S k) 24).2))] ν1 rfl trivial ?_
  exact zq_retn zt_X9_ask rfl rfl (⟨rfl, n1, k0.tr k1⟩)
set_option maxRecDepth 100000 in
set_option maxHeartbeats 400000 in
theorem zs_ask_b {τ : zTd} {S : zES} {H : zSH} {μ0 : zq_Me} (v1 : Int32) (hg : ¬ (0 ≤ v1 ∧ v1 ≤ nI (ynp τ) - nI 1)) (hC : zIc τ S H μ0) : zq_Wp zn_X8_ask 0 [(0, .ref 0), (1, .int v1)] [] μ0 (zRc (.int (-2)) τ S H μ0) := by
  refine zq_go zt_X8_ask 2 [] 2 [(0, .ref 0), (1, .int v1)] [.int v1, .ref 0] μ0 rfl trivial ?_
  refine zq_call zt_X8_ask [.ref 0, .int v1] [] (zs_isPerson v1 hC) rfl rfl ?_
  rintro _ _ ⟨rfl, rfl⟩
  refine zq_go zt_X8_ask 1 [] (if ¬ (zb (0 ≤ v1 ∧ v1 ≤ nI (ynp τ) - nI 1)) = 0 then 11 else 8) [(0, .ref 0), (1, .int v1)] [] μ0 rfl trivial ?_
  refine zq_ite (fun h4 => ?_) (fun h4 => ?_)
  · have g0 := zb_p h4
    exact absurd g0 hg
  · refine zq_go zt_X8_ask 1 [] 10 [(0, .ref 0), (1, .int v1)] [.int (-2)] μ0 rfl trivial ?_
    exact zq_retn zt_X8_ask rfl rfl (⟨rfl, hC, zq_fr.rf⟩)
set_option maxRecDepth 100000 in
set_option maxHeartbeats 400000 in
theorem zs_askm_b9 {τ : zTd} {S : zES} {H : zSH} {μ0 : zq_Me} (v1 : Int32) (hg : ¬ (0 ≤ v1 ∧ v1 ≤ nI (ynp τ) - nI 1)) (hM : zIm τ S H μ0) : zq_Wp zn_X9_ask 0 [(0, .ref 50), (1, .int v1)] [] μ0 (zRm' (.int (-2)) τ S H μ0) := by
  refine zq_go zt_X9_ask 2 [] 2 [(0, .ref 50), (1, .int v1)] [.int v1, .ref 50] μ0 rfl trivial ?_
  refine zq_call zt_X9_ask [.ref 50, .int v1] [] (zs_isPersonm v1 hM) rfl rfl ?_
  rintro _ μ1 ⟨rfl, m1, f1, d1, p1⟩
  refine zq_go zt_X9_ask 1 [] (if (zb (0 ≤ v1 ∧ v1 ≤ nI (ynp τ) - nI 1)) = 0 then 16 else 8) [(0, .ref 50), (1, .int v1)] [] μ1 rfl trivial ?_
  refine zq_ite (fun h4 => ?_) (fun h4 => ?_)
  · refine zq_go zt_X9_ask 1 [] 18 [(0, .ref 50), (1, .int v1)] [.int (-2)] μ1 rfl trivial ?_
    exact zq_retn zt_X9_ask rfl rfl (⟨rfl, m1, f1⟩)
  · have g0 := zb_p h4
    exact absurd g0 hg
theorem zo_ask (v1 : Int32) : zop zn_X8_ask [(0, .ref 0), (1, .int v1)] zn_X9_ask [(0, .ref 50), (1, .int v1)] := by
  intro τ S H μ hC hM
  by_cases hg : 0 ≤ v1 ∧ v1 ≤ nI (ynp τ) - nI 1
  · have h9 := hC.2.1.2.1
    obtain ⟨k, lk, rfl⟩ := ypx (by omega) hg
    exact ⟨_, τ, S, H, zs_ask lk hC, fun _ h => zs_askm lk h⟩
  · exact ⟨_, τ, S, H, zs_ask_b v1 hg hC, fun _ h => zs_askm_b9 v1 hg h⟩
/-! ===== weeks ===== -/
def ysd (s : Int32) : Int32 := nI 1103515245 * s + nI 12345
def ysu (s : Int32) : Nat := s.toBitVec.toNat / 2 ^ 16
def yw0 (s : Int32) : Nat → Int32
  | 0 => s
  | e + 1 => ysd (ysd (ysd (yw0 s e)))
def ywk (s : Int32) (e : Nat) : Nat := ysu (ysd (yw0 s e)) % 2
def ywh (s : Int32) (e : Nat) : Nat := ysu (ysd (ysd (yw0 s e))) % 24
def ywn (s : Int32) (e : Nat) : Nat := ysu (ysd (ysd (ysd (yw0 s e)))) % 8
theorem ysu_lt (s : Int32) : ysu s < 2 ^ 16 := Nat.div_lt_of_lt_mul (by have := s.toBitVec.isLt; omega)
theorem yof (s : Int32) : nI s.toBitVec.toNat = s := by
  apply Int32.toBitVec_inj.mp
  apply BitVec.eq_of_toNat_eq
  show (BitVec.ofNat 32 _).toNat = _
  rw [BitVec.toNat_ofNat]
  exact Nat.mod_eq_of_lt s.toBitVec.isLt
theorem yush (s : Int32) : zq_ush s (nI 16) = nI (ysu s) := by
  have h := zn_ush (n := s.toBitVec.toNat) (k := 16) s.toBitVec.isLt (by decide)
  rw [yof] at h
  exact h
theorem ydr (s : Int32) {q : Nat} (h0 : 0 < q) (hq : q < 2 ^ 31) : zq_ush s (nI 16) - zq_ush s (nI 16) / nI q * nI q = nI (ysu s % q) := by
  have h1 := ysu_lt s
  have h2 : ysu s / q * q ≤ ysu s := Nat.div_mul_le_self _ _
  rw [yush, pk_div (by omega) h0 hq, zn_mul, zn_sub h2]
  congr 1
  have := Nat.div_add_mod (ysu s) q
  have e : q * (ysu s / q) = ysu s / q * q := Nat.mul_comm _ _
  omega
theorem yw9 (s : Int32) (e : Nat) : yek9 (ywk s e) (ywh s e) (ywn s e) := ⟨by have : ywk s e < 2 := Nat.mod_lt _ (by decide); omega, Nat.mod_lt _ (by decide), by have : ywn s e < 8 := Nat.mod_lt _ (by decide); omega, fun _ => Nat.mod_lt _ (by decide)⟩
def ywR (τ : zTd) (s : Int32) (n : Nat) : Nat → Nat → Nat := yR τ (ysr τ) (ybd τ) (ywk s) (ywh s) (ywn s) 0 n (yld τ)
def yWk (τ : zTd) (s : Int32) (n w : Nat) : Nat := if w = 0 then zc (zal (ynp τ) (ywR τ s n) 23).testBit 24 else zc (zemp (ynp τ) (ywR τ s n) 0).testBit 24
set_option maxRecDepth 100000 in
set_option maxHeartbeats 400000 in
theorem zs_draw {q : Nat} (h0 : 1 ≤ q) (hq : q < 2 ^ 31) {s : Int32} {μ0 : zq_Me} (hs : μ0.1 19 0 = s) : zq_Wp zn_X2_draw 0 [(0, .ref 19), (1, .int (nI q))] [] μ0 (fun r μ => r = some (.int (nI (ysu (ysd s) % q))) ∧ zq_fr [19] μ0 μ ∧ μ.1 19 0 = ysd s) := by
  refine zq_go zt_X2_draw 11 [] (if (nI 1) ≤ (nI q) then 24 else 20) [(0, .ref 19), (1, .int (nI q))] [] (zq_u1 μ0 19 0 (((nI 1103515245) * (μ0.1 19 0)) + (nI 12345))) rfl trivial ?_
  rw [hs]
  rw [if_pos (by rw [zn_le (by omega) (by omega)]; omega)]
  rw [show nI 1103515245 * s + nI 12345 = ysd s from rfl]
  refine zq_go zt_X2_draw 6 [¬ (nI q) = 0] 33 [(0, .ref 19), (1, .int (nI q))] [.int ((zq_ush (ysd s) (nI 16)) - (zq_ush (ysd s) (nI 16)) / (nI q) * (nI q))] (zq_u1 μ0 19 0 (ysd s)) rfl ⟨fun q9 => by rw [show (0 : Int32) = nI 0 from rfl, zn_eq (by omega) (by omega)] at q9; omega, trivial⟩ ?_
  rw [ydr _ (by omega) hq]
  exact zq_retn zt_X2_draw rfl rfl (⟨rfl, zq_fr.rf.u1 (by simp), zq_u1_s⟩)
set_option maxRecDepth 100000 in
set_option maxHeartbeats 400000 in
theorem zs_weeks_l {Q : zq_Post} {τ : zTd} {s : Int32} {n w : Nat} (ln : n ≤ 8) {μ0 : zq_Me} (kk : ∀ μ : zq_Me, (zq_fr [5, 15, 16, 17, 18, 19, 40, 41, 42, 43, 44, 45, 46, 47, 48] μ0 μ ∧ zK40 (ynd τ) (yo1 τ) (yo2 τ) μ ∧ μ.1 40 11 = -1 ∧ μ.1 19 0 = yw0 s n ∧ zEv 15 3 16 17 18 n (ywk s) (ywh s) (ywn s) μ) → zq_Wp zn_X8_weeks 94 [(0, .ref 0), (3, .int (nI w))] [] μ Q) : ∀ (j e : Nat) (μ : zq_Me), e + j = n → (zq_fr [5, 15, 16, 17, 18, 19, 40, 41, 42, 43, 44, 45, 46, 47, 48] μ0 μ ∧ zK40 (ynd τ) (yo1 τ) (yo2 τ) μ ∧ μ.1 40 11 = -1 ∧ μ.1 19 0 = yw0 s e ∧ zEv 15 3 16 17 18 e (ywk s) (ywh s) (ywn s) μ) → zq_Wp zn_X8_weeks 41 [(0, .ref 0), (2, .int (nI n)), (3, .int (nI w)), (4, .int (nI e))] [] μ Q := by
  intro j
  induction j with
  | zero =>
    rintro e μ hij hI
    obtain rfl : e = n := by omega
    refine zq_go zt_X8_weeks 3 [] (if (nI e) ≤ (nI e) then 94 else 47) [(0, .ref 0), (2, .int (nI e)), (3, .int (nI w)), (4, .int (nI e))] [] μ rfl trivial ?_
    rw [if_pos (by rw [zn_le (by omega) (by omega)]; omega)]
    exact zq_drp [0, 3] _ rfl (kk μ hI)
  | succ j ih =>
    rintro e μ hij ⟨hF, hK, hw11, hs, hE⟩
    refine zq_go zt_X8_weeks 3 [] (if (nI n) ≤ (nI e) then 94 else 47) [(0, .ref 0), (2, .int (nI n)), (3, .int (nI w)), (4, .int (nI e))] [] μ rfl trivial ?_
    rw [if_neg (by rw [zn_le (by omega) (by omega)]; omega)]
    refine zq_go zt_X8_weeks 3 [] 52 [(0, .ref 0), (2, .int (nI n)), (3, .int (nI w)), (4, .int (nI e))] [.int (nI 2), .ref 19] μ rfl trivial ?_
    refine zq_call zt_X8_weeks [.ref 19, .int (nI 2)] [] (zs_draw (q := 2) (by decide) (by decide) hs) rfl rfl ?_
    rintro _ μ1 ⟨rfl, f1, s1⟩
    refine zq_go zt_X8_weeks 4 [] 63 [(0, .ref 0), (2, .int (nI n)), (3, .int (nI w)), (4, .int (nI e)), (5, .int (nI (ywk s e)))] [.int (nI 24), .ref 19] μ1 rfl trivial ?_
    refine zq_call zt_X8_weeks [.ref 19, .int (nI 24)] [] (zs_draw (q := 24) (by decide) (by decide) s1) rfl rfl ?_
    rintro _ μ2 ⟨rfl, f2, s2⟩
    refine zq_go zt_X8_weeks 8 [] 82 [(0, .ref 0), (2, .int (nI n)), (3, .int (nI w)), (4, .int (nI e)), (5, .int (nI (ywk s e))), (6, .int (nI (ywh s e)))] [.int (nI 8), .ref 19, .int (nI (ywh s e)), .int (nI (ywk s e)), .ref 15] μ2 rfl trivial ?_
    refine zq_call zt_X8_weeks [.ref 19, .int (nI 8)] [.int (nI (ywh s e)), .int (nI (ywk s e)), .ref 15] (zs_draw (q := 8) (by decide) (by decide) s2) rfl rfl ?_
    rintro _ μ3 ⟨rfl, f3, s3⟩
    have f13 : zq_fr [19] μ μ3 := f1.tr (f2.tr f3)
    have hE3 := hE.fr f13 (by decide)
    refine zq_call zt_X8_weeks [.ref 15, .int (nI (ywk s e)), .int (nI (ywh s e)), .int (nI (ywn s e))] [] (zs_add15 (nI (ywk s e)) (nI (ywh s e)) (nI (ywn s e)) (n := e) (by omega) hE3.2.1) rfl rfl ?_
    rintro _ μ4 ⟨rfl, f4, s4, i4, b1, b2, b3⟩
    refine zq_go zt_X8_weeks 2 [] 41 [(0, .ref 0), (2, .int (nI n)), (3, .int (nI w)), (4, .int ((nI e) + (nI 1))), (5, .int (nI (ywk s e))), (6, .int (nI (ywh s e)))] [] μ4 rfl trivial ?_
    rw [zn_add e 1]
    have fr : zq_fr [5, 15, 16, 17, 18, 19, 40, 41, 42, 43, 44, 45, 46, 47, 48] μ μ4 := (f13.wk (by simp)).tr (f4.wk (by simp +contextual))
    exact zq_drp [0, 2, 3, 4] _ rfl (ih (e + 1) μ4 (by omega) ⟨hF.tr fr, by unfold zK40; rw [f4.a (b := 46) (by decide), f4.a (b := 45) (by decide), f13.a (b := 46) (by decide), f13.a (b := 45) (by decide)]; exact hK, by rw [f4.a (b := 40) (by decide), f13.a (b := 40) (by decide)]; exact hw11, by rw [f4.a (b := 19) (by decide)]; exact s3, hE3.ap (by omega) (yw9 s e) s4 b1 b2 b3⟩)
set_option maxRecDepth 100000 in
set_option maxHeartbeats 400000 in
theorem zs_weeks {τ : zTd} {S : zES} {H : zSH} {μ0 : zq_Me} (s : Int32) {n w : Nat} (ln : n ≤ 8) (lw : w ≤ 1) (hC : zIc τ S H μ0) : zq_Wp zn_X8_weeks 0 [(0, .ref 0), (1, .int s), (2, .int (nI n)), (3, .int (nI w))] [] μ0 (zRc (.int (nI (yWk τ s n w))) τ S H μ0) := by
  refine zq_go zt_X8_weeks 3 [] 4 [(0, .ref 0), (1, .int s), (2, .int (nI n)), (3, .int (nI w))] [.int (nI 8), .int (nI 0), .int (nI n)] μ0 rfl trivial ?_
  refine zq_call zt_X8_weeks [.int (nI n), .int (nI 0), .int (nI 8)] [] (zs_within (nI n) (nI 0) (nI 8) μ0) rfl rfl ?_
  rintro _ _ ⟨rfl, rfl⟩
  refine zq_go zt_X8_weeks 1 [] (if (zb (0 ≤ nI n ∧ nI n ≤ nI 8)) = 0 then 19 else 10) [(0, .ref 0), (1, .int s), (2, .int (nI n)), (3, .int (nI w))] [] μ0 rfl trivial ?_
  rw [if_neg (zb_n (yin (by omega) (by decide)))]
  refine zq_go zt_X8_weeks 3 [] 13 [(0, .ref 0), (1, .int s), (2, .int (nI n)), (3, .int (nI w))] [.int (nI 1), .int (nI 0), .int (nI w)] μ0 rfl trivial ?_
  refine zq_call zt_X8_weeks [.int (nI w), .int (nI 0), .int (nI 1)] [] (zs_within (nI w) (nI 0) (nI 1) μ0) rfl rfl ?_
  rintro _ _ ⟨rfl, rfl⟩
  refine zq_go zt_X8_weeks 1 [] (if ¬ (zb (0 ≤ nI w ∧ nI w ≤ nI 1)) = 0 then 22 else 19) [(0, .ref 0), (1, .int s), (2, .int (nI n)), (3, .int (nI w))] [] μ0 rfl trivial ?_
  rw [if_pos (zb_n (yin (by omega) (by decide)))]
  refine zq_go zt_X8_weeks 10 [] 41 [(0, .ref 0), (1, .int s), (2, .int (nI n)), (3, .int (nI w)), (4, .int (nI 0))] [] (zq_u1 (zq_u1 μ0 19 0 s) 15 3 (nI 0)) rfl trivial ?_
  obtain ⟨μ1, hμ1⟩ : ∃ k9 : zq_Me, k9 = (zq_u1 (zq_u1 μ0 19 0 s) 15 3 (nI 0)) := ⟨_, rfl⟩
  rw [← hμ1]
  have f1 : zq_fr [15, 19] μ0 μ1 := by rw [hμ1]; exact (zq_fr.rf.u1 (by simp)).u1 (by simp)
  have hK1 : zK40 (ynd τ) (yo1 τ) (yo2 τ) μ1 := by unfold zK40; rw [f1.a (b := 46) (by decide), f1.a (b := 45) (by decide)]; exact hC.2.2.2.2.2.1.2
  refine zq_drp [0, 2, 3, 4] _ rfl (zs_weeks_l (τ := τ) (s := s) (μ0 := μ0) ln (fun μ3 h3 => ?_) n 0 μ1 (by omega) ⟨f1.wk (by simp), hK1, by rw [f1.a (b := 40) (by decide)]; exact hC.2.2.2.2.2.1.1, by rw [hμ1, zq_u1_ne (by decide), zq_u1_s]; rfl, by omega, by rw [hμ1, zq_u1_s], fun e he => absurd he (Nat.not_lt_zero e)⟩)
  obtain ⟨hF, hK, hw11, hs, hE⟩ := h3
  have hl9 := hC.2.2.1.2.2
  have hld : μ3.1 0 12 = nI (yld τ) := by rw [hF.a (b := 0) (by decide)]; exact hC.2.2.1.1
  have hP : zP40 (ynp τ) (ysr τ) (yst τ) (ybd τ) μ3 := zP40.of (hC.2.1.2.fr hF (by decide)) hw11
  refine zq_go zt_X8_weeks 7 [] 107 [(0, .ref 0), (3, .int (nI w))] [.int (μ3.1 0 12), .int (nI 0), .ref 15, .ref 40] μ3 rfl trivial ?_
  rw [hld]
  refine zq_call zt_X8_weeks [.ref 40, .ref 15, .int (nI 0), .int (nI (yld τ))] [] (zs_try15 hC hF hK (wo := 0) (by decide) hl9 hP (E := (n, ywk s, ywh s, ywn s)) hE (Or.inl ln)) rfl rfl ?_
  rintro _ μ4 ⟨rfl, hF4, hK4, s4, hP4, q4⟩
  have hQ : zQ40 (ynp τ) (ywR τ s n) μ4 := q4
  have hI : zIc τ S H μ4 := hC.tr hF4 ⟨by rw [s4 11 (by decide) (by decide)]; exact hw11, hK4⟩
  refine zq_go zt_X8_weeks 2 [] (if ¬ (nI w) = 0 then 126 else 114) [(0, .ref 0), (3, .int (nI w))] [] μ4 rfl trivial ?_
  refine zq_ite (fun h27 => ?_) (fun h27 => ?_)
  · rw [show (0 : Int32) = nI 0 from rfl, zn_eq (by omega) (by omega)] at h27
    have e0 : yWk τ s n w = zc (zemp (ynp τ) (ywR τ s n) 0).testBit 24 := if_neg (by omega)
    rw [e0]
    refine zq_go zt_X8_weeks 3 [] 131 [(0, .ref 0), (3, .int (nI w))] [.int (nI 0), .ref 40] μ4 rfl trivial ?_
    refine zq_call zt_X8_weeks [.ref 40, .int (nI 0)] [] (zs_emptyHours40 hQ (r := 0) (by decide)) rfl rfl ?_
    rintro _ _ ⟨rfl, rfl⟩
    refine zq_call zt_X8_weeks [.int (nI (zemp (ynp τ) (ywR τ s n) 0))] [] (zs_bc (zemp_lt _ _ _) μ4) rfl rfl ?_
    rintro _ _ ⟨rfl, rfl⟩
    exact zq_retn zt_X8_weeks rfl rfl (⟨rfl, hI, hF4.wk (by simp +contextual [zSC])⟩)
  · rw [show (0 : Int32) = nI 0 from rfl, zn_eq (by omega) (by omega)] at h27
    have e0 : yWk τ s n w = zc (zal (ynp τ) (ywR τ s n) 23).testBit 24 := if_pos (by omega)
    rw [e0]
    refine zq_go zt_X8_weeks 3 [] 120 [(0, .ref 0), (3, .int (nI w))] [.int (nI 23), .ref 40] μ4 rfl trivial ?_
    refine zq_call zt_X8_weeks [.ref 40, .int (nI 23)] [] (zs_aloneBehind40 hQ (h := 23) (by decide)) rfl rfl ?_
    rintro _ _ ⟨rfl, rfl⟩
    refine zq_go zt_X8_weeks 1 [] 134 [(0, .ref 0), (3, .int (nI w))] [.int (nI (zal (ynp τ) (ywR τ s n) 23))] μ4 rfl trivial ?_
    refine zq_call zt_X8_weeks [.int (nI (zal (ynp τ) (ywR τ s n) 23))] [] (zs_bc (Nat.lt_trans (zal_lt hQ.1 _ _) (by decide)) μ4) rfl rfl ?_
    rintro _ _ ⟨rfl, rfl⟩
    exact zq_retn zt_X8_weeks rfl rfl (⟨rfl, hI, hF4.wk (by simp +contextual [zSC])⟩)
set_option maxRecDepth 100000 in
set_option maxHeartbeats 400000 in
theorem zs_weeksOf_l {Q : zq_Post} {τ : zTd} {S : zES} {H : zSH} {s : Int32} {n w : Nat} (ln : n ≤ 8) {μ0 : zq_Me} (kk : ∀ μ : zq_Me, (zIm τ S H μ ∧ zq_fr zSM μ0 μ ∧ (zDm (ynd τ) (yo1 τ) (yo2 τ) μ ∧ zPm (ynp τ) (ysr τ) (yst τ) (ybd τ) μ ∧ μ.1 50 14 = nI (yld τ) ∧ μ.1 50 19 = nI 0 ∧ μ.1 50 15 = nI n) ∧ (∀ i, i < n → μ.1 61 i = nI (ywk s i) ∧ μ.1 62 i = nI (ywh s i) ∧ μ.1 63 i = nI (ywn s i))) → zq_Wp zn_X9_weeksOf 107 [(0, .ref 50), (3, .int (nI w))] [] μ Q) : ∀ (j e : Nat) (μ : zq_Me), e + j = n → (zIm τ S H μ ∧ zq_fr zSM μ0 μ ∧ (zDm (ynd τ) (yo1 τ) (yo2 τ) μ ∧ zPm (ynp τ) (ysr τ) (yst τ) (ybd τ) μ ∧ μ.1 50 14 = nI (yld τ) ∧ μ.1 50 19 = nI 0 ∧ μ.1 50 15 = nI n) ∧ (∀ i, i < e → μ.1 61 i = nI (ywk s i) ∧ μ.1 62 i = nI (ywh s i) ∧ μ.1 63 i = nI (ywn s i))) → zq_Wp zn_X9_weeksOf 15 [(0, .ref 50), (2, .int (nI n)), (3, .int (nI w)), (4, .int (yw0 s e)), (5, .int (nI e))] [] μ Q := by
  intro j
  induction j with
  | zero =>
    rintro e μ hij hI
    obtain rfl : e = n := by omega
    refine zq_go zt_X9_weeksOf 3 [] (if (nI e) ≤ (nI e) then 107 else 21) [(0, .ref 50), (2, .int (nI e)), (3, .int (nI w)), (4, .int (yw0 s e)), (5, .int (nI e))] [] μ rfl trivial ?_
    rw [if_pos (by rw [zn_le (by omega) (by omega)]; omega)]
    exact zq_drp [0, 3] _ rfl (kk μ hI)
  | succ j ih =>
    rintro e μ hij ⟨hM, hF, ⟨d, p, l, w9, e15⟩, hA⟩
    refine zq_go zt_X9_weeksOf 3 [] (if (nI n) ≤ (nI e) then 107 else 21) [(0, .ref 50), (2, .int (nI n)), (3, .int (nI w)), (4, .int (yw0 s e)), (5, .int (nI e))] [] μ rfl trivial ?_
    rw [if_neg (by rw [zn_le (by omega) (by omega)]; omega)]
    refine zq_go zt_X9_weeksOf 47 [¬ (nI 2) = 0, vp_in (nI e) 9, ¬ (nI 24) = 0, vp_in (nI e) 9, ¬ (nI 8) = 0, vp_in (nI e) 9] 15 [(0, .ref 50), (2, .int (nI n)), (3, .int (nI w)), (4, .int (((nI 1103515245) * (((nI 1103515245) * (((nI 1103515245) * (yw0 s e)) + (nI 12345))) + (nI 12345))) + (nI 12345))), (5, .int ((nI e) + (nI 1)))] [] (zq_u1 (zq_u1 (zq_u1 μ 61 ((nI e).toNatClampNeg) ((zq_ush (((nI 1103515245) * (yw0 s e)) + (nI 12345)) (nI 16)) - (zq_ush (((nI 1103515245) * (yw0 s e)) + (nI 12345)) (nI 16)) / (nI 2) * (nI 2))) 62 ((nI e).toNatClampNeg) ((zq_ush (((nI 1103515245) * (((nI 1103515245) * (yw0 s e)) + (nI 12345))) + (nI 12345)) (nI 16)) - (zq_ush (((nI 1103515245) * (((nI 1103515245) * (yw0 s e)) + (nI 12345))) + (nI 12345)) (nI 16)) / (nI 24) * (nI 24))) 63 ((nI e).toNatClampNeg) ((zq_ush (((nI 1103515245) * (((nI 1103515245) * (((nI 1103515245) * (yw0 s e)) + (nI 12345))) + (nI 12345))) + (nI 12345)) (nI 16)) - (zq_ush (((nI 1103515245) * (((nI 1103515245) * (((nI 1103515245) * (yw0 s e)) + (nI 12345))) + (nI 12345))) + (nI 12345)) (nI 16)) / (nI 8) * (nI 8))) rfl ⟨by decide, ⟨zn_in (k := e) rfl (by omega) (by decide), ⟨by decide, ⟨zn_in (k := e) rfl (by omega) (by decide), ⟨by decide, ⟨zn_in (k := e) rfl (by omega) (by decide), trivial⟩⟩⟩⟩⟩⟩ ?_
    rw [zn_add e 1, zn_cl (n := e) (by omega)]
    obtain ⟨μ1, hμ1⟩ : ∃ k9 : zq_Me, k9 = (zq_u1 (zq_u1 (zq_u1 μ 61 e ((zq_ush (((nI 1103515245) * (yw0 s e)) + (nI 12345)) (nI 16)) - (zq_ush (((nI 1103515245) * (yw0 s e)) + (nI 12345)) (nI 16)) / (nI 2) * (nI 2))) 62 e ((zq_ush (((nI 1103515245) * (((nI 1103515245) * (yw0 s e)) + (nI 12345))) + (nI 12345)) (nI 16)) - (zq_ush (((nI 1103515245) * (((nI 1103515245) * (yw0 s e)) + (nI 12345))) + (nI 12345)) (nI 16)) / (nI 24) * (nI 24))) 63 e ((zq_ush (((nI 1103515245) * (((nI 1103515245) * (((nI 1103515245) * (yw0 s e)) + (nI 12345))) + (nI 12345))) + (nI 12345)) (nI 16)) - (zq_ush (((nI 1103515245) * (((nI 1103515245) * (((nI 1103515245) * (yw0 s e)) + (nI 12345))) + (nI 12345))) + (nI 12345)) (nI 16)) / (nI 8) * (nI 8))) := ⟨_, rfl⟩
    rw [← hμ1]
    rw [show ((nI 1103515245) * (((nI 1103515245) * (((nI 1103515245) * (yw0 s e)) + (nI 12345))) + (nI 12345))) + (nI 12345) = yw0 s (e + 1) from rfl]
    have f1 : zq_fr [61, 62, 63] μ μ1 := by rw [hμ1]; exact ((zq_fr.rf.u1 (by simp)).u1 (by simp)).u1 (by simp)
    have q50 : μ1.1 50 = μ.1 50 := f1.a (by decide)
    exact ih (e + 1) μ1 (by omega) ⟨hM.kp f1 (by decide) (fun i hi => by rw [q50]), hF.tr (f1.wk (by simp +contextual [zSM])), ⟨d.fr f1 (by decide), p.sl (by rw [q50]) (f1.a (by decide)) (f1.a (by decide)) (f1.a (by decide)), by rw [q50]; exact l, by rw [q50]; exact w9, by rw [q50]; exact e15⟩, fun i hi => by
      by_cases q : i = e
      · subst q
        rw [hμ1]
        exact ⟨by rw [zq_u1_ne (by decide), zq_u1_ne (by decide), zq_u1_s]; exact ydr _ (by decide) (by decide), by rw [zq_u1_ne (by decide), zq_u1_s]; exact ydr _ (by decide) (by decide), by rw [zq_u1_s]; exact ydr _ (by decide) (by decide)⟩
      · rw [hμ1]
        obtain ⟨y1, y2, y3⟩ := hA i (by omega)
        exact ⟨by rw [zq_u1_ne (by decide), zq_u1_ne (by decide), zq_u1_o2 q]; exact y1, by rw [zq_u1_ne (by decide), zq_u1_o2 q, zq_u1_ne (by decide)]; exact y2, by rw [zq_u1_o2 q, zq_u1_ne (by decide), zq_u1_ne (by decide)]; exact y3⟩⟩
set_option maxRecDepth 100000 in
set_option maxHeartbeats 400000 in
theorem zs_weeksOf {τ : zTd} {S : zES} {H : zSH} {μ0 : zq_Me} (s : Int32) {n w : Nat} (ln : n ≤ 8) (lw : w ≤ 1) (hM : zIm τ S H μ0) : zq_Wp zn_X9_weeksOf 0 [(0, .ref 50), (1, .int s), (2, .int (nI n)), (3, .int (nI w))] [] μ0 (zRm' (.int (nI (yWk τ s n w))) τ S H μ0) := by
  refine zq_go zt_X9_weeksOf 1 [] 1 [(0, .ref 50), (1, .int s), (2, .int (nI n)), (3, .int (nI w))] [.ref 50] μ0 rfl trivial ?_
  refine zq_call zt_X9_weeksOf [.ref 50] [] (zs_asTold hM) rfl rfl ?_
  rintro _ ν1 ⟨rfl, n1, k1, o1⟩
  refine zq_go zt_X9_weeksOf 7 [] 15 [(0, .ref 50), (1, .int s), (2, .int (nI n)), (3, .int (nI w)), (4, .int s), (5, .int (nI 0))] [] (zq_u1 ν1 50 15 (nI n)) rfl trivial ?_
  obtain ⟨ν2, hν2⟩ : ∃ k9 : zq_Me, k9 = (zq_u1 ν1 50 15 (nI n)) := ⟨_, rfl⟩
  rw [← hν2]
  have f2 : zq_fr [50] ν1 ν2 := by rw [hν2]; exact zq_fr.rf.u1 (by simp)
  have s2 : ∀ i, i ≠ 15 → ν2.1 50 i = ν1.1 50 i := fun i hi => by rw [hν2, zq_u1_o2 hi]
  have n2 : zIm τ S H ν2 := n1.kp f2 (by decide) (fun i hi => s2 i (by simp at hi; omega))
  have hl9 := n1.2.1.2.2
  have d2 : zDm (ynd τ) (yo1 τ) (yo2 τ) ν2 := ⟨o1.1.1, by rw [s2 2 (by decide)]; exact o1.1.2.1, by rw [f2.a (b := 53) (by decide)]; exact o1.1.2.2.1, by rw [f2.a (b := 54) (by decide)]; exact o1.1.2.2.2⟩
  have p2 := o1.2.1.sl (μ1 := ν2) (s2 5 (by decide)) (f2.a (by decide)) (f2.a (by decide)) (f2.a (by decide))
  refine zq_drp [0, 2, 3, 4, 5] _ rfl (zs_weeksOf_l (τ := τ) (S := S) (H := H) (s := s) (μ0 := μ0) ln (fun μ3 h3 => ?_) n 0 ν2 (by omega) ⟨n2, k1.tr (f2.wk (by simp [zSM])), ⟨d2, p2, by rw [s2 14 (by decide)]; exact o1.2.2.1, by rw [s2 19 (by decide)]; exact o1.2.2.2.2, by rw [hν2, zq_u1_s]⟩, fun i hi => absurd hi (Nat.not_lt_zero i)⟩)
  obtain ⟨n3, k3, ⟨d3, p3, l3, w3, e3⟩, a3⟩ := h3
  have hN3 : zNr τ (ysr τ) (ybd τ) (yld τ) (n, ywk s, ywh s, ywn s) 0 μ3 := ⟨d3, p3, l3, ⟨by show n ≤ 9; omega, e3, fun e he => ⟨(a3 e he).1, (a3 e he).2.1, (a3 e he).2.2, yw9 s e⟩⟩, w3⟩
  refine zq_go zt_X9_weeksOf 1 [] 108 [(0, .ref 50), (3, .int (nI w))] [.ref 50] μ3 rfl trivial ?_
  refine zq_call zt_X9_weeksOf [.ref 50] [] (zs_tryM n3 hN3 hl9 (by decide)) rfl rfl ?_
  rintro _ μ4 ⟨rfl, n4, f4, s4, hN4, q4⟩
  have hQ : zQm (ynp τ) (ywR τ s n) μ4 := q4
  refine zq_go zt_X9_weeksOf 2 [] (if ¬ (nI w) = 0 then 126 else 115) [(0, .ref 50), (3, .int (nI w))] [] μ4 rfl trivial ?_
  refine zq_ite (fun h20 => ?_) (fun h20 => ?_)
  · rw [show (0 : Int32) = nI 0 from rfl, zn_eq (by omega) (by omega)] at h20
    have e0 : yWk τ s n w = zc (zemp (ynp τ) (ywR τ s n) 0).testBit 24 := if_neg (by omega)
    rw [e0]
    refine zq_go zt_X9_weeksOf 3 [] 129 [(0, .ref 50), (3, .int (nI w))] [.int (nI 0), .ref 50, .ref 50] μ4 rfl trivial ?_
    refine zq_call zt_X9_weeksOf [.ref 50, .int (nI 0)] [.ref 50] (zs_emptyNow hQ (r := 0) (by decide)) rfl rfl ?_
    rintro _ _ ⟨rfl, rfl⟩
    refine zq_call zt_X9_weeksOf [.ref 50, .int (nI (zemp (ynp τ) (ywR τ s n) 0))] [] (zs_many (Nat.lt_trans (zemp_lt _ _ _) (by decide)) μ4) rfl rfl ?_
    rintro _ _ ⟨rfl, rfl⟩
    exact zq_retn zt_X9_weeksOf rfl rfl (⟨rfl, n4, k3.tr (f4.wk (by simp +contextual [zSM]))⟩)
  · rw [show (0 : Int32) = nI 0 from rfl, zn_eq (by omega) (by omega)] at h20
    have e0 : yWk τ s n w = zc (zal (ynp τ) (ywR τ s n) 23).testBit 24 := if_pos (by omega)
    rw [e0]
    refine zq_go zt_X9_weeksOf 2 [] 117 [(0, .ref 50), (3, .int (nI w))] [.ref 50, .ref 50] μ4 rfl trivial ?_
    refine zq_call zt_X9_weeksOf [.ref 50] [.ref 50] (zs_aloneNow hQ) rfl rfl ?_
    rintro _ _ ⟨rfl, rfl⟩
    refine zq_call zt_X9_weeksOf [.ref 50, .int (nI (zal (ynp τ) (ywR τ s n) 23))] [] (zs_many (Nat.lt_trans (zal_lt hQ.1 _ _) (by decide)) μ4) rfl rfl ?_
    rintro _ _ ⟨rfl, rfl⟩
    refine zq_go zt_X9_weeksOf 1 [] 135 [(0, .ref 50), (3, .int (nI w))] [.int (nI (zc (zal (ynp τ) (ywR τ s n) 23).testBit 24))] μ4 rfl trivial ?_
    exact zq_retn zt_X9_weeksOf rfl rfl (⟨rfl, n4, k3.tr (f4.wk (by simp +contextual [zSM]))⟩)
set_option maxRecDepth 100000 in
set_option maxHeartbeats 400000 in
theorem zs_weeksm {τ : zTd} {S : zES} {H : zSH} {μ0 : zq_Me} (s : Int32) {n w : Nat} (ln : n ≤ 8) (lw : w ≤ 1) (hM : zIm τ S H μ0) : zq_Wp zn_X9_weeks 0 [(0, .ref 50), (1, .int s), (2, .int (nI n)), (3, .int (nI w))] [] μ0 (zRm' (.int (nI (yWk τ s n w))) τ S H μ0) := by
  refine zq_go zt_X9_weeks 3 [] 4 [(0, .ref 50), (1, .int s), (2, .int (nI n)), (3, .int (nI w))] [.int (nI 8), .int (nI 0), .int (nI n)] μ0 rfl trivial ?_
  refine zq_call zt_X9_weeks [.int (nI n), .int (nI 0), .int (nI 8)] [] (zs_in (nI n) (nI 0) (nI 8) μ0) rfl rfl ?_
  rintro _ _ ⟨rfl, rfl⟩
  refine zq_go zt_X9_weeks 1 [] (if (zb (0 ≤ (nI n) ∧ (nI n) ≤ nI 8)) = 0 then 27 else 10) [(0, .ref 50), (1, .int s), (2, .int (nI n)), (3, .int (nI w))] [] μ0 rfl trivial ?_
  rw [if_neg (zb_n (yin (by omega) (by decide)))]
  refine zq_go zt_X9_weeks 1 [] 11 [(0, .ref 50), (1, .int s), (2, .int (nI n)), (3, .int (nI w))] [.int (nI w)] μ0 rfl trivial ?_
  refine zq_call zt_X9_weeks [.int (nI w)] [] (zs_isTwom (nI w) μ0) rfl rfl ?_
  rintro _ _ ⟨rfl, rfl⟩
  refine zq_go zt_X9_weeks 1 [] (if (zb (0 ≤ (nI w) ∧ (nI w) ≤ nI 1)) = 0 then 27 else 17) [(0, .ref 50), (1, .int s), (2, .int (nI n)), (3, .int (nI w))] [] μ0 rfl trivial ?_
  rw [if_neg (zb_n (yin (by omega) (by decide)))]
  refine zq_go zt_X9_weeks 4 [] 21 [(0, .ref 50), (1, .int s), (2, .int (nI n)), (3, .int (nI w))] [.int (nI w), .int (nI n), .int s, .ref 50] μ0 rfl trivial ?_
  refine zq_call zt_X9_weeks [.ref 50, .int s, .int (nI n), .int (nI w)] [] (zs_weeksOf s ln lw hM) rfl rfl ?_
  rintro _ ν1 ⟨rfl, n1, k1⟩
  refine zq_go zt_X9_weeks 1 [] 29 [(0, .ref 50), (1, .int s), (2, .int (nI n)), (3, .int (nI w))] [.int (nI (yWk τ s n w))] ν1 rfl trivial ?_
  exact zq_retn zt_X9_weeks rfl rfl (⟨rfl, n1, k1⟩)
set_option maxRecDepth 100000 in
set_option maxHeartbeats 400000 in
theorem zs_weeks_b (v1 v2 v3 : Int32) (hg : ¬ ((0 ≤ v2 ∧ v2 ≤ nI 8) ∧ (0 ≤ v3 ∧ v3 ≤ nI 1))) {τ : zTd} {S : zES} {H : zSH} {μ0 : zq_Me} (hC : zIc τ S H μ0) : zq_Wp zn_X8_weeks 0 [(0, .ref 0), (1, .int v1), (2, .int v2), (3, .int v3)] [] μ0 (zRc (.int (-2)) τ S H μ0) := by
  refine zq_go zt_X8_weeks 3 [] 4 [(0, .ref 0), (1, .int v1), (2, .int v2), (3, .int v3)] [.int (nI 8), .int (nI 0), .int v2] μ0 rfl trivial ?_
  refine zq_call zt_X8_weeks [.int v2, .int (nI 0), .int (nI 8)] [] (zs_within v2 (nI 0) (nI 8) μ0) rfl rfl ?_
  rintro _ _ ⟨rfl, rfl⟩
  refine zq_go zt_X8_weeks 1 [] (if (zb (0 ≤ v2 ∧ v2 ≤ nI 8)) = 0 then 19 else 10) [(0, .ref 0), (1, .int v1), (2, .int v2), (3, .int v3)] [] μ0 rfl trivial ?_
  refine zq_ite (fun h4 => ?_) (fun h4 => ?_)
  · refine zq_go zt_X8_weeks 1 [] 21 [(0, .ref 0), (1, .int v1), (2, .int v2), (3, .int v3)] [.int (-2)] μ0 rfl trivial ?_
    exact zq_retn zt_X8_weeks rfl rfl (⟨rfl, hC, zq_fr.rf⟩)
  · have g0 := zb_p h4
    refine zq_go zt_X8_weeks 3 [] 13 [(0, .ref 0), (1, .int v1), (2, .int v2), (3, .int v3)] [.int (nI 1), .int (nI 0), .int v3] μ0 rfl trivial ?_
    refine zq_call zt_X8_weeks [.int v3, .int (nI 0), .int (nI 1)] [] (zs_within v3 (nI 0) (nI 1) μ0) rfl rfl ?_
    rintro _ _ ⟨rfl, rfl⟩
    refine zq_go zt_X8_weeks 1 [] (if ¬ (zb (0 ≤ v3 ∧ v3 ≤ nI 1)) = 0 then 22 else 19) [(0, .ref 0), (1, .int v1), (2, .int v2), (3, .int v3)] [] μ0 rfl trivial ?_
    refine zq_ite (fun h12 => ?_) (fun h12 => ?_)
    · have g1 := zb_p h12
      exact absurd ⟨g0, g1⟩ hg
    · refine zq_go zt_X8_weeks 1 [] 21 [(0, .ref 0), (1, .int v1), (2, .int v2), (3, .int v3)] [.int (-2)] μ0 rfl trivial ?_
      exact zq_retn zt_X8_weeks rfl rfl (⟨rfl, hC, zq_fr.rf⟩)
set_option maxRecDepth 100000 in
set_option maxHeartbeats 400000 in
theorem zs_weeksm_b (v1 v2 v3 : Int32) (hg : ¬ ((0 ≤ v2 ∧ v2 ≤ nI 8) ∧ (0 ≤ v3 ∧ v3 ≤ nI 1))) {τ : zTd} {S : zES} {H : zSH} {μ0 : zq_Me} (hM : zIm τ S H μ0) : zq_Wp zn_X9_weeks 0 [(0, .ref 50), (1, .int v1), (2, .int v2), (3, .int v3)] [] μ0 (zRm' (.int (-2)) τ S H μ0) := by
  refine zq_go zt_X9_weeks 3 [] 4 [(0, .ref 50), (1, .int v1), (2, .int v2), (3, .int v3)] [.int (nI 8), .int (nI 0), .int v2] μ0 rfl trivial ?_
  refine zq_call zt_X9_weeks [.int v2, .int (nI 0), .int (nI 8)] [] (zs_in v2 (nI 0) (nI 8) μ0) rfl rfl ?_
  rintro _ _ ⟨rfl, rfl⟩
  refine zq_go zt_X9_weeks 1 [] (if (zb (0 ≤ v2 ∧ v2 ≤ nI 8)) = 0 then 27 else 10) [(0, .ref 50), (1, .int v1), (2, .int v2), (3, .int v3)] [] μ0 rfl trivial ?_
  refine zq_ite (fun h4 => ?_) (fun h4 => ?_)
  · refine zq_go zt_X9_weeks 1 [] 29 [(0, .ref 50), (1, .int v1), (2, .int v2), (3, .int v3)] [.int (-2)] μ0 rfl trivial ?_
    exact zq_retn zt_X9_weeks rfl rfl (⟨rfl, hM, zq_fr.rf⟩)
  · have g0 := zb_p h4
    refine zq_go zt_X9_weeks 1 [] 11 [(0, .ref 50), (1, .int v1), (2, .int v2), (3, .int v3)] [.int v3] μ0 rfl trivial ?_
    refine zq_call zt_X9_weeks [.int v3] [] (zs_isTwom v3 μ0) rfl rfl ?_
    rintro _ _ ⟨rfl, rfl⟩
    refine zq_go zt_X9_weeks 1 [] (if (zb (0 ≤ v3 ∧ v3 ≤ nI 1)) = 0 then 27 else 17) [(0, .ref 50), (1, .int v1), (2, .int v2), (3, .int v3)] [] μ0 rfl trivial ?_
    refine zq_ite (fun h12 => ?_) (fun h12 => ?_)
    · refine zq_go zt_X9_weeks 1 [] 29 [(0, .ref 50), (1, .int v1), (2, .int v2), (3, .int v3)] [.int (-2)] μ0 rfl trivial ?_
      exact zq_retn zt_X9_weeks rfl rfl (⟨rfl, hM, zq_fr.rf⟩)
    · have g1 := zb_p h12
      exact absurd ⟨g0, g1⟩ hg
theorem zo_weeks (v1 v2 v3 : Int32) : zop zn_X8_weeks [(0, .ref 0), (1, .int v1), (2, .int v2), (3, .int v3)] zn_X9_weeks [(0, .ref 50), (1, .int v1), (2, .int v2), (3, .int v3)] := by
  intro τ S H μ hC hM
  by_cases hg : (0 ≤ v2 ∧ v2 ≤ nI 8) ∧ (0 ≤ v3 ∧ v3 ≤ nI 1)
  · obtain ⟨n, ln, rfl⟩ := yix (by decide) hg.1
    obtain ⟨w, lw, rfl⟩ := yix (by decide) hg.2
    exact ⟨_, τ, S, H, zs_weeks v1 ln lw hC, fun _ h => zs_weeksm v1 ln lw h⟩
  · exact ⟨_, τ, S, H, zs_weeks_b v1 v2 v3 hg hC, fun _ h => zs_weeksm_b v1 v2 v3 hg h⟩
