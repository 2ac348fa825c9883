/-! ===== the reference's ways: nears, measures, isBeside, step ===== -/
def zB (p : Bool) : Int32 := if p = true then nI 1 else nI 0
theorem zB_01 (p : Bool) : zB p = 0 ∨ zB p = 1 := by cases p; exact Or.inl rfl; exact Or.inr rfl
theorem zB_f {p : Bool} (h : zB p = 0) : p = false := by
  cases p with
  | false => rfl
  | true => exact absurd h (by decide)
theorem zB_t {p : Bool} (h : ¬ zB p = 0) : p = true := by
  cases p with
  | true => rfl
  | false => exact absurd rfl h
theorem zB_bit (b k : Nat) : nI (if b.testBit k = true then 1 else 0) = zB (b.testBit k) := by cases b.testBit k <;> rfl
theorem zg_adj_door {o1 o2 : Nat → Nat} {m : Nat} : ∀ {n d : Nat}, d < n → m.testBit d = false → zg_adj o1 o2 m n (o1 d) (o2 d) = true ∧ zg_adj o1 o2 m n (o2 d) (o1 d) = true
  | 0, _, h, _ => absurd h (Nat.not_lt_zero _)
  | n + 1, d, h, hm => by
    rw [zg_adj_succ, zg_adj_succ]
    by_cases hd : d = n
    · subst hd; simp [hm]
    · obtain ⟨h1, h2⟩ := zg_adj_door (o1 := o1) (o2 := o2) (n := n) (d := d) (by omega) hm
      simp [h1, h2]
theorem zg_adj_ex {o1 o2 : Nat → Nat} {m x y : Nat} : ∀ {n : Nat}, zg_adj o1 o2 m n x y = true → ∃ d, d < n ∧ m.testBit d = false ∧ ((x = o1 d ∧ y = o2 d) ∨ (x = o2 d ∧ y = o1 d))
  | 0, h => by cases h
  | n + 1, h => by
    rw [zg_adj_succ] at h
    cases h1 : zg_adj o1 o2 m n x y with
    | true =>
      obtain ⟨d, a, b⟩ := zg_adj_ex h1
      exact ⟨d, by omega, b⟩
    | false =>
      rw [h1] at h
      simp at h
      exact ⟨n, by omega, h.1, h.2⟩
/-- what is told of a far table f: each entry is a way's length or 99 -/
def zfS (a : Nat → Nat → Bool) (f : Nat → Nat → Nat) : Prop := ∀ x c, x < 8 → c < 8 → f x c ≤ 99 ∧ (f x c < 99 → zg_b a c (f x c) x = true)
def zfC (a : Nat → Nat → Bool) (r : Nat) (f : Nat → Nat → Nat) : Prop := ∀ k x c, k ≤ r → x < 8 → c < 8 → zg_b a c k x = true → f x c ≤ k
/-- 'one' is looked at from 'other' -/
def zfR (f : Nat → Nat → Nat) (x y c : Nat) : Nat → Nat → Nat := fun y' c' => if y' = y ∧ c' = c then (if f x c + 1 < f y c then f x c + 1 else f y c) else f y' c'
theorem zfR_le (f : Nat → Nat → Nat) (x y c y' c' : Nat) : zfR f x y c y' c' ≤ f y' c' := by
  unfold zfR
  split
  · rename_i h
    obtain ⟨rfl, rfl⟩ := h
    split <;> omega
  · exact Nat.le_refl _
theorem zfR_at (f : Nat → Nat → Nat) (x y c : Nat) : zfR f x y c y c ≤ f x c + 1 := by
  unfold zfR
  rw [if_pos ⟨rfl, rfl⟩]
  split <;> omega
theorem zfR_S {a : Nat → Nat → Bool} {f : Nat → Nat → Nat} {x y c : Nat} (h : zfS a f) (hx : x < 8) (hc : c < 8) (ha : a x y = true) : zfS a (zfR f x y c) := by
  intro y' c' hy' hc'
  refine ⟨Nat.le_trans (zfR_le f x y c y' c') (h y' c' hy' hc').1, fun hl => ?_⟩
  unfold zfR at hl ⊢
  split at hl
  · rename_i h1
    obtain ⟨rfl, rfl⟩ := h1
    rw [if_pos ⟨rfl, rfl⟩]
    split at hl
    · rename_i h2
      rw [if_pos h2]
      exact zg_step hx ((h x c' hx hc').2 (by omega)) ha
    · rename_i h2
      rw [if_neg h2]
      exact (h y' c' hy' hc').2 hl
  · rename_i h1
    rw [if_neg h1]
    exact (h y' c' hy' hc').2 hl
def zfD (d : Nat) : Nat := if d < 8 then d else 99
theorem zf_end {a : Nat → Nat → Bool} {f : Nat → Nat → Nat} (hS : zfS a f) (hC : zfC a 8 f) : ∀ x c, x < 8 → c < 8 → f x c = zfD (zg_d a c x) := by
  intro x c hx hc
  obtain ⟨h1, h2⟩ := hS x c hx hc
  unfold zfD
  by_cases hd : zg_d a c x < 8
  · rw [if_pos hd]
    have h3 := hC _ x c (by omega) hx hc (zg_d_lt hd)
    have h4 := h2 (by omega)
    have h5 := zg_d_at (a := a) (t := c) (x := x) (k := f x c) (by omega) h4
    omega
  · rw [if_neg hd]
    by_cases h3 : f x c < 99
    · have h4 := zg_7 hc hx (h2 h3)
      have := zg_d_at (a := a) (t := c) (x := x) (k := 7) (by omega) h4
      omega
    · omega
theorem zfC_succ {o1 o2 : Nat → Nat} {m nd r : Nat} {f f0 : Nat → Nat → Nat} (h1 : ∀ d, d < nd → o1 d < 8) (h2 : ∀ d, d < nd → o2 d < 8) (hC : zfC (zg_adj o1 o2 m nd) r f0) (hle : ∀ x c, x < 8 → c < 8 → f x c ≤ f0 x c) (hd : ∀ d, d < nd → m.testBit d = false → ∀ c, c < 8 → f (o2 d) c ≤ f0 (o1 d) c + 1 ∧ f (o1 d) c ≤ f0 (o2 d) c + 1) : zfC (zg_adj o1 o2 m nd) (r + 1) f := by
  intro k x c hk hx hc hb
  by_cases hkr : k ≤ r
  · exact Nat.le_trans (hle x c hx hc) (hC k x c hkr hx hc hb)
  · obtain rfl : k = r + 1 := by omega
    cases hb1 : zg_b (zg_adj o1 o2 m nd) c r x with
    | true =>
      have := hC r x c (Nat.le_refl _) hx hc hb1
      have := hle x c hx hc
      omega
    | false =>
      obtain ⟨y, hy, h3, h4⟩ := zg_back hb hb1
      have h5 := hC r y c (Nat.le_refl _) hy hc h3
      obtain ⟨d, hd1, hd2, hd3⟩ := zg_adj_ex h4
      have h6 := hd d hd1 hd2 c hc
      rcases hd3 with ⟨rfl, rfl⟩ | ⟨rfl, rfl⟩ <;> omega
/-- what the reference knows of its doors -/
def zDm (nd : Nat) (o1 o2 : Nat → Nat) (μ : zq_Me) : Prop := nd ≤ 12 ∧ μ.1 50 2 = nI nd ∧ (∀ d, d < nd → μ.1 53 d = nI (o1 d) ∧ o1 d < 8) ∧ (∀ d, d < nd → μ.1 54 d = nI (o2 d) ∧ o2 d < 8)
theorem zDm.fr {nd : Nat} {o1 o2 : Nat → Nat} {μ μ1 : zq_Me} {S : List Nat} (h : zDm nd o1 o2 μ) (hf : zq_fr S μ μ1) (hs : 50 ∉ S ∧ 53 ∉ S ∧ 54 ∉ S) : zDm nd o1 o2 μ1 := by
  obtain ⟨a, b, c, d⟩ := h
  exact ⟨a, by rw [hf.a hs.1]; exact b, fun e he => by rw [hf.a hs.2.1]; exact c e he, fun e he => by rw [hf.a hs.2.2]; exact d e he⟩
/-- the far table of an hour, and all else of that array as it was -/
def zfM (P : Nat) (f : Nat → Nat → Nat) (μ0 μ : zq_Me) : Prop := zq_fr [65] μ0 μ ∧ (∀ x c, x < 8 → c < 8 → μ.1 65 (P + 8 * x + c) = nI (f x c)) ∧ ∀ q, (q < P ∨ P + 64 ≤ q) → μ.1 65 q = μ0.1 65 q
theorem zfM.set {P : Nat} {f : Nat → Nat → Nat} {μ0 μ : zq_Me} (h : zfM P f μ0 μ) {x y c : Nat} (hy : y < 8) (hc : c < 8) : zfM P (zfR f x y c) μ0 (zq_u1 μ 65 (P + 8 * y + c) (nI (zfR f x y c y c))) := by
  refine ⟨h.1.u1 (by simp), fun x' c' hx' hc' => ?_, fun q hq => ?_⟩
  · rw [zq_u1_rd]
    by_cases he : x' = y ∧ c' = c
    · rw [he.1, he.2, if_pos rfl]
    · rw [if_neg (by omega), h.2.1 x' c' hx' hc']
      unfold zfR
      rw [if_neg he]
  · rw [zq_u1_o2 (by omega)]; exact h.2.2 q hq
set_option maxRecDepth 100000 in
set_option maxHeartbeats 4000000 in
theorem zs_isIn (b k : Nat) (hb : b < 2 ^ 31) (hk : k < 31) (μ : zq_Me) : zq_Wp zn_X9_isIn 0 [(0, .int (nI b)), (1, .int (nI k))] [] μ (zq_pi (zB (b.testBit k)) μ) := by
  refine zq_go zt_X9_isIn 7 [] (if ¬ (((nI b) >>> ((nI k) &&& 31)) &&& (nI 1)) = (nI 1) then 13 else 9) [(0, .int (nI b)), (1, .int (nI k))] [] μ rfl trivial ?_
  rw [zn_bit hb (by omega)]
  refine zq_ite (fun h2 => ?_) (fun h2 => ?_)
  · have hq : b.testBit k = false := by
      cases hq : b.testBit k with
      | false => rfl
      | true => rw [hq] at h2; exact absurd rfl h2
    refine zq_go zt_X9_isIn 1 [] 14 [(0, .int (nI b)), (1, .int (nI k))] [.int (nI 0)] μ rfl trivial ?_
    rw [hq]
    exact zq_retz zt_X9_isIn rfl (Or.inl rfl) (⟨rfl, rfl⟩)
  · have hq : b.testBit k = true := by
      cases hq : b.testBit k with
      | true => rfl
      | false => rw [hq] at h2; exact absurd (show ¬ nI (if false = true then 1 else 0) = nI 1 by decide) h2
    refine zq_go zt_X9_isIn 2 [] 14 [(0, .int (nI b)), (1, .int (nI k))] [.int (nI 1)] μ rfl trivial ?_
    rw [hq]
    exact zq_retz zt_X9_isIn rfl (Or.inr rfl) (⟨rfl, rfl⟩)
set_option maxRecDepth 100000 in
set_option maxHeartbeats 4000000 in
theorem zs_nears {P : Nat} (hP : P ≤ 1472) {f : Nat → Nat → Nat} {a : Nat → Nat → Bool} {μ0 μ : zq_Me} (hM : zfM P f μ0 μ) (hS : zfS a f) {x y c : Nat} (hx : x < 8) (hy : y < 8) (hc : c < 8) : zq_Wp zn_X9_nears 0 [(0, .ref 50), (1, .int (nI P)), (2, .int (nI x)), (3, .int (nI y)), (4, .int (nI c))] [] μ (fun r μ' => r = none ∧ μ' = zq_u1 μ 65 (P + 8 * y + c) (nI (if f x c + 1 < f y c then f x c + 1 else f y c))) := by
  have hx9 : μ.1 65 (P + 8 * x + c) = nI (f x c) := hM.2.1 x c hx hc
  have hy9 : μ.1 65 (P + 8 * y + c) = nI (f y c) := hM.2.1 y c hy hc
  have hb1 := (hS x c hx hc).1
  have hb2 := (hS y c hy hc).1
  refine zq_go zt_X9_nears 34 [vp_in (((nI P) + ((nI 8) * (nI x))) + (nI c)) 1536, vp_in (((nI P) + ((nI 8) * (nI y))) + (nI c)) 1536] (if (μ.1 65 ((((nI P) + ((nI 8) * (nI y))) + (nI c)).toNatClampNeg)) ≤ ((μ.1 65 ((((nI P) + ((nI 8) * (nI x))) + (nI c)).toNatClampNeg)) + (nI 1)) then 57 else 50) [(0, .ref 50), (1, .int (nI P)), (2, .int (nI x)), (3, .int (nI y)), (4, .int (nI c)), (5, .int (μ.1 65 ((((nI P) + ((nI 8) * (nI x))) + (nI c)).toNatClampNeg)))] [.int (((nI P) + ((nI 8) * (nI y))) + (nI c)), .ref 65] μ rfl ⟨zn_in (k := (P + (8 * x)) + c) (by rw [zn_mul 8 x, zn_add P (8 * x), zn_add (P + (8 * x)) c]) (by omega) (by decide), ⟨zn_in (k := (P + (8 * y)) + c) (by rw [zn_mul 8 y, zn_add P (8 * y), zn_add (P + (8 * y)) c]) (by omega) (by decide), trivial⟩⟩ ?_
  rw [zn_mul 8 x, zn_add P (8 * x), zn_add (P + (8 * x)) c, zn_cl (n := (P + (8 * x)) + c) (by omega), hx9, zn_mul 8 y, zn_add P (8 * y), zn_add (P + (8 * y)) c, zn_add (f x c) 1, zn_cl (n := (P + (8 * y)) + c) (by omega), hy9]
  refine zq_ite (fun h6 => ?_) (fun h6 => ?_)
  · rw [zn_le (by omega) (by omega)] at h6
    refine zq_go zt_X9_nears 11 [vp_in (((nI P) + ((nI 8) * (nI y))) + (nI c)) 1536, vp_in (nI ((P + (8 * y)) + c)) 1536] 72 [(0, .ref 50), (1, .int (nI P)), (2, .int (nI x)), (3, .int (nI y)), (4, .int (nI c)), (5, .int (nI (f x c)))] [] (zq_u1 μ 65 ((nI ((P + (8 * y)) + c)).toNatClampNeg) (μ.1 65 ((((nI P) + ((nI 8) * (nI y))) + (nI c)).toNatClampNeg))) rfl ⟨zn_in (k := (P + (8 * y)) + c) (by rw [zn_mul 8 y, zn_add P (8 * y), zn_add (P + (8 * y)) c]) (by omega) (by decide), ⟨zn_in (k := (P + (8 * y)) + c) rfl (by omega) (by decide), trivial⟩⟩ ?_
    rw [zn_mul 8 y, zn_add P (8 * y), zn_add (P + (8 * y)) c, zn_cl (n := (P + (8 * y)) + c) (by omega), hy9]
    rw [if_neg (show ¬ f x c + 1 < f y c by omega)]
    exact zq_retn zt_X9_nears rfl rfl (⟨rfl, rfl⟩)
  · rw [zn_le (by omega) (by omega)] at h6
    refine zq_go zt_X9_nears 4 [] 71 [(0, .ref 50), (1, .int (nI P)), (2, .int (nI x)), (3, .int (nI y)), (4, .int (nI c)), (5, .int (nI (f x c)))] [.int ((nI (f x c)) + (nI 1)), .int (nI ((P + (8 * y)) + c)), .ref 65] μ rfl trivial ?_
    rw [zn_add (f x c) 1]
    refine zq_go zt_X9_nears 1 [vp_in (nI ((P + (8 * y)) + c)) 1536] 72 [(0, .ref 50), (1, .int (nI P)), (2, .int (nI x)), (3, .int (nI y)), (4, .int (nI c)), (5, .int (nI (f x c)))] [] (zq_u1 μ 65 ((nI ((P + (8 * y)) + c)).toNatClampNeg) (nI ((f x c) + 1))) rfl ⟨zn_in (k := (P + (8 * y)) + c) rfl (by omega) (by decide), trivial⟩ ?_
    rw [zn_cl (n := (P + (8 * y)) + c) (by omega)]
    rw [if_pos (show f x c + 1 < f y c by omega)]
    exact zq_retn zt_X9_nears rfl rfl (⟨rfl, rfl⟩)
set_option maxRecDepth 100000 in
set_option maxHeartbeats 4000000 in
theorem zs_meas_c {Q : zq_Post} {P nd m d : Nat} (hP : P ≤ 1472) {o1 o2 : Nat → Nat} {μ0 : zq_Me} (hD0 : zDm nd o1 o2 μ0) (hsb : μ0.1 50 21 = nI m) (hm : m < 2 ^ 31) (hd : d < nd) (hr r : Int32) {f0 : Nat → Nat → Nat} (kk : ∀ μ : zq_Me, (∃ f, zfM P f μ0 μ ∧ zfS (zg_adj o1 o2 m nd) f ∧ (∀ x c, x < 8 → c < 8 → f x c ≤ f0 x c) ∧ (m.testBit d = false → (∀ i, i < 8 → f (o2 d) i ≤ f0 (o1 d) i + 1 ∧ f (o1 d) i ≤ f0 (o2 d) i + 1))) → zq_Wp zn_X9_measures 134 [(0, .ref 50), (1, .int hr), (2, .int (nI P)), (3, .int r), (4, .int (nI d))] [] μ Q) : ∀ (j c : Nat) (μ : zq_Me), c + j = 8 → (∃ f, zfM P f μ0 μ ∧ zfS (zg_adj o1 o2 m nd) f ∧ (∀ x c, x < 8 → c < 8 → f x c ≤ f0 x c) ∧ (∀ i, i < c → f (o2 d) i ≤ f0 (o1 d) i + 1 ∧ f (o1 d) i ≤ f0 (o2 d) i + 1)) → zq_Wp zn_X9_measures 67 [(0, .ref 50), (1, .int hr), (2, .int (nI P)), (3, .int r), (4, .int (nI d)), (5, .int (nI c))] [] μ Q := by
  intro j
  induction j with
  | zero =>
    intro c μ hij hI
    obtain rfl : c = 8 := by omega
    obtain ⟨f, hM, hS, hle, hre⟩ := hI
    refine zq_go zt_X9_measures 3 [] (if (nI 8) ≤ (nI 8) then 134 else 74) [(0, .ref 50), (1, .int hr), (2, .int (nI P)), (3, .int r), (4, .int (nI d)), (5, .int (nI 8))] [] μ rfl trivial ?_
    rw [if_pos (by rw [zn_le (by omega) (by omega)]; omega)]
    exact zq_drp [0, 1, 2, 3, 4] [(0, .ref 50), (1, .int hr), (2, .int (nI P)), (3, .int r), (4, .int (nI d))] rfl (kk μ ⟨f, hM, hS, hle, fun _ => hre⟩)
  | succ j ih =>
    intro c μ hij hI
    obtain ⟨f, hM, hS, hle, hre⟩ := hI
    have hD := hD0.fr hM.1 (by decide)
    have hn9 := hD.1
    have hs : μ.1 50 21 = nI m := by rw [hM.1.a (b := 50) (by decide)]; exact hsb
    have g1 := (hD.2.2.1 d hd).2
    have g2 := (hD.2.2.2 d hd).2
    refine zq_go zt_X9_measures 3 [] (if (nI 8) ≤ (nI c) then 134 else 74) [(0, .ref 50), (1, .int hr), (2, .int (nI P)), (3, .int r), (4, .int (nI d)), (5, .int (nI c))] [] μ rfl trivial ?_
    rw [if_neg (by rw [zn_le (by omega) (by omega)]; omega)]
    refine zq_go zt_X9_measures 3 [] 80 [(0, .ref 50), (1, .int hr), (2, .int (nI P)), (3, .int r), (4, .int (nI d)), (5, .int (nI c))] [.int (nI d), .int (μ.1 50 21)] μ rfl trivial ?_
    rw [hs]
    refine zq_call zt_X9_measures [.int (nI m), .int (nI d)] [] (zs_isIn m d hm (by omega) μ) rfl rfl ?_
    rintro _ _ ⟨rfl, rfl⟩
    refine zq_go zt_X9_measures 1 [] (if ¬ (zB (m.testBit d)) = 0 then 134 else 86) [(0, .ref 50), (1, .int hr), (2, .int (nI P)), (3, .int r), (4, .int (nI d)), (5, .int (nI c))] [] μ rfl trivial ?_
    refine zq_ite (fun h24 => ?_) (fun h24 => ?_)
    · have hb9 := zB_t h24
      exact zq_drp [0, 1, 2, 3, 4] [(0, .ref 50), (1, .int hr), (2, .int (nI P)), (3, .int r), (4, .int (nI d))] rfl (kk μ ⟨f, hM, hS, hle, fun h9 => by rw [hb9] at h9; cases h9⟩)
    · have hb9 := zB_f (Classical.not_not.mp h24)
      obtain ⟨ga, gb⟩ := zg_adj_door (o1 := o1) (o2 := o2) hd hb9
      refine zq_go zt_X9_measures 11 [vp_in (nI d) 13, vp_in (nI d) 13] 104 [(0, .ref 50), (1, .int hr), (2, .int (nI P)), (3, .int r), (4, .int (nI d)), (5, .int (nI c))] [.int (nI c), .int (μ.1 54 ((nI d).toNatClampNeg)), .int (μ.1 53 ((nI d).toNatClampNeg)), .int (nI P), .ref 50] μ rfl ⟨zn_in (k := d) rfl (by omega) (by decide), ⟨zn_in (k := d) rfl (by omega) (by decide), trivial⟩⟩ ?_
      rw [zn_cl (n := d) (by omega), (hD.2.2.2 d (by omega)).1, (hD.2.2.1 d (by omega)).1]
      refine zq_call zt_X9_measures [.ref 50, .int (nI P), .int (nI (o1 d)), .int (nI (o2 d)), .int (nI c)] [] (zs_nears hP hM hS (x := o1 d) (y := o2 d) (c := c) g1 g2 (by omega)) rfl rfl ?_
      rintro _ _ ⟨rfl, rfl⟩
      have hv : (if f (o1 d) c + 1 < f (o2 d) c then f (o1 d) c + 1 else f (o2 d) c) = zfR f (o1 d) (o2 d) c (o2 d) c := (if_pos ⟨rfl, rfl⟩).symm
      rw [hv]
      have hM1 := hM.set (x := o1 d) (y := o2 d) (c := c) g2 (by omega)
      have hS1 := zfR_S (y := o2 d) (c := c) hS g1 (by omega) ga
      generalize hf1 : zfR f (o1 d) (o2 d) c = f1 at hM1 hS1 ⊢
      generalize zq_u1 μ 65 (P + 8 * o2 d + c) (nI (f1 (o2 d) c)) = μ1 at hM1 ⊢
      clear hD hs
      have hD := hD0.fr hM1.1 (by decide)
      have hs : μ1.1 50 21 = nI m := by rw [hM1.1.a (b := 50) (by decide)]; exact hsb
      refine zq_go zt_X9_measures 11 [vp_in (nI d) 13, vp_in (nI d) 13] 125 [(0, .ref 50), (1, .int hr), (2, .int (nI P)), (3, .int r), (4, .int (nI d)), (5, .int (nI c))] [.int (nI c), .int (μ1.1 53 ((nI d).toNatClampNeg)), .int (μ1.1 54 ((nI d).toNatClampNeg)), .int (nI P), .ref 50] μ1 rfl ⟨zn_in (k := d) rfl (by omega) (by decide), ⟨zn_in (k := d) rfl (by omega) (by decide), trivial⟩⟩ ?_
      rw [zn_cl (n := d) (by omega), (hD.2.2.1 d (by omega)).1, (hD.2.2.2 d (by omega)).1]
      refine zq_call zt_X9_measures [.ref 50, .int (nI P), .int (nI (o2 d)), .int (nI (o1 d)), .int (nI c)] [] (zs_nears hP hM1 hS1 (x := o2 d) (y := o1 d) (c := c) g2 g1 (by omega)) rfl rfl ?_
      rintro _ _ ⟨rfl, rfl⟩
      have hv : (if f1 (o2 d) c + 1 < f1 (o1 d) c then f1 (o2 d) c + 1 else f1 (o1 d) c) = zfR f1 (o2 d) (o1 d) c (o1 d) c := (if_pos ⟨rfl, rfl⟩).symm
      rw [hv]
      have hM2 := hM1.set (x := o2 d) (y := o1 d) (c := c) g1 (by omega)
      have hS2 := zfR_S (y := o1 d) (c := c) hS1 g2 (by omega) gb
      refine zq_go zt_X9_measures 2 [] 67 [(0, .ref 50), (1, .int hr), (2, .int (nI P)), (3, .int r), (4, .int (nI d)), (5, .int ((nI c) + (nI 1)))] [] (zq_u1 μ1 65 (P + 8 * o1 d + c) (nI (zfR f1 (o2 d) (o1 d) c (o1 d) c))) rfl trivial ?_
      rw [zn_add c 1]
      refine ih (c + 1) _ (by omega) ⟨_, hM2, hS2, fun x c9 hx hc9 => ?_, fun c9 hc9 => ?_⟩
      · have q1 := zfR_le f1 (o2 d) (o1 d) c x c9
        have q2 := zfR_le f (o1 d) (o2 d) c x c9
        rw [hf1] at q2
        have q3 := hle x c9 hx hc9
        omega
      · have q1 := zfR_le f1 (o2 d) (o1 d) c (o2 d) c9
        have q2 := zfR_le f (o1 d) (o2 d) c (o2 d) c9
        have q3 := zfR_le f1 (o2 d) (o1 d) c (o1 d) c9
        have q4 := zfR_le f (o1 d) (o2 d) c (o1 d) c9
        have q9 := hle (o2 d) c9 g2 (by omega)
        have q8 := hle (o1 d) c9 g1 (by omega)
        by_cases hc : c9 = c
        · subst hc
          have q5 := zfR_at f (o1 d) (o2 d) c9
          have q6 := zfR_at f1 (o2 d) (o1 d) c9
          rw [hf1] at q2 q4 q5
          omega
        · have q7 := hre c9 (by omega)
          rw [hf1] at q2 q4
          omega
set_option maxRecDepth 100000 in
set_option maxHeartbeats 4000000 in
theorem zs_meas_d {Q : zq_Post} {P nd m : Nat} (hP : P ≤ 1472) {o1 o2 : Nat → Nat} {μ0 : zq_Me} (hD0 : zDm nd o1 o2 μ0) (hsb : μ0.1 50 21 = nI m) (hm : m < 2 ^ 31) (hr r : Int32) {f0 : Nat → Nat → Nat} (kk : ∀ μ : zq_Me, (∃ f, zfM P f μ0 μ ∧ zfS (zg_adj o1 o2 m nd) f ∧ (∀ x c, x < 8 → c < 8 → f x c ≤ f0 x c) ∧ (∀ e, e < nd → m.testBit e = false → ∀ c, c < 8 → f (o2 e) c ≤ f0 (o1 e) c + 1 ∧ f (o1 e) c ≤ f0 (o2 e) c + 1)) → zq_Wp zn_X9_measures 140 [(0, .ref 50), (1, .int hr), (2, .int (nI P)), (3, .int r)] [] μ Q) : ∀ (j d : Nat) (μ : zq_Me), d + j = nd → (∃ f, zfM P f μ0 μ ∧ zfS (zg_adj o1 o2 m nd) f ∧ (∀ x c, x < 8 → c < 8 → f x c ≤ f0 x c) ∧ (∀ e, e < d → m.testBit e = false → ∀ c, c < 8 → f (o2 e) c ≤ f0 (o1 e) c + 1 ∧ f (o1 e) c ≤ f0 (o2 e) c + 1)) → zq_Wp zn_X9_measures 55 [(0, .ref 50), (1, .int hr), (2, .int (nI P)), (3, .int r), (4, .int (nI d))] [] μ Q := by
  intro j
  induction j with
  | zero =>
    intro d μ hij hI
    have hd9 : d = nd := by omega
    subst hd9
    have hI9 := hI
    obtain ⟨f, hM, hS, hle, hr9⟩ := hI
    have hD := hD0.fr hM.1 (by decide)
    have hn9 := hD.1
    refine zq_go zt_X9_measures 4 [] (if (μ.1 50 2) ≤ (nI d) then 140 else 64) [(0, .ref 50), (1, .int hr), (2, .int (nI P)), (3, .int r), (4, .int (nI d))] [] μ rfl trivial ?_
    rw [hD.2.1]
    rw [if_pos (by rw [zn_le (by omega) (by omega)]; omega)]
    exact zq_drp [0, 1, 2, 3] [(0, .ref 50), (1, .int hr), (2, .int (nI P)), (3, .int r)] rfl (kk μ hI9)
  | succ j ih =>
    intro d μ hij hI
    obtain ⟨f, hM, hS, hle, hr9⟩ := hI
    have hD := hD0.fr hM.1 (by decide)
    have hn9 := hD.1
    have hd : d < nd := by omega
    have hs : μ.1 50 21 = nI m := by rw [hM.1.a (b := 50) (by decide)]; exact hsb
    refine zq_go zt_X9_measures 4 [] (if (μ.1 50 2) ≤ (nI d) then 140 else 64) [(0, .ref 50), (1, .int hr), (2, .int (nI P)), (3, .int r), (4, .int (nI d))] [] μ rfl trivial ?_
    rw [hD.2.1]
    rw [if_neg (by rw [zn_le (by omega) (by omega)]; omega)]
    refine zq_go zt_X9_measures 2 [] 67 [(0, .ref 50), (1, .int hr), (2, .int (nI P)), (3, .int r), (4, .int (nI d)), (5, .int (nI 0))] [] μ rfl trivial ?_
    refine zs_meas_c (f0 := f) hP hD hs hm hd hr r (fun μ1 hJ => ?_) 8 0 μ (by omega) ⟨f, ⟨zq_fr.rf, hM.2.1, fun _ _ => rfl⟩, hS, fun _ _ _ _ => Nat.le_refl _, fun c hc => absurd hc (Nat.not_lt_zero c)⟩
    obtain ⟨f1, hM1, hS1, hle1, hr1⟩ := hJ
    refine zq_go zt_X9_measures 2 [] 55 [(0, .ref 50), (1, .int hr), (2, .int (nI P)), (3, .int r), (4, .int ((nI d) + (nI 1)))] [] μ1 rfl trivial ?_
    rw [zn_add d 1]
    refine ih (d + 1) μ1 (by omega) ⟨f1, ⟨hM.1.tr hM1.1, hM1.2.1, fun q hq => (hM1.2.2 q hq).trans (hM.2.2 q hq)⟩, hS1, fun x c hx hc => Nat.le_trans (hle1 x c hx hc) (hle x c hx hc), fun d9 hd9 hm9 c hc => ?_⟩
    have g1 := (hD.2.2.1 d9 (by omega)).2
    have g2 := (hD.2.2.2 d9 (by omega)).2
    have q1 := hle1 (o1 d9) c g1 hc
    have q2 := hle1 (o2 d9) c g2 hc
    have q3 := hle (o1 d9) c g1 hc
    have q4 := hle (o2 d9) c g2 hc
    by_cases h9 : d9 = d
    · subst h9
      have := hr1 hm9 c hc
      omega
    · have := hr9 d9 (by omega) hm9 c hc
      omega
set_option maxRecDepth 100000 in
set_option maxHeartbeats 4000000 in
theorem zs_meas_r {Q : zq_Post} {P nd m : Nat} (hP : P ≤ 1472) {o1 o2 : Nat → Nat} {μ0 : zq_Me} (hD0 : zDm nd o1 o2 μ0) (hsb : μ0.1 50 21 = nI m) (hm : m < 2 ^ 31) (hr : Int32) (kk : ∀ μ : zq_Me, (∃ f, zfM P f μ0 μ ∧ zfS (zg_adj o1 o2 m nd) f ∧ zfC (zg_adj o1 o2 m nd) 8 f) → zq_Wp zn_X9_measures 146 [] [] μ Q) : ∀ (j r : Nat) (μ : zq_Me), r + j = 8 → (∃ f, zfM P f μ0 μ ∧ zfS (zg_adj o1 o2 m nd) f ∧ zfC (zg_adj o1 o2 m nd) r f) → zq_Wp zn_X9_measures 46 [(0, .ref 50), (1, .int hr), (2, .int (nI P)), (3, .int (nI r))] [] μ Q := by
  intro j
  induction j with
  | zero =>
    intro r μ hij hI
    obtain rfl : r = 8 := by omega
    refine zq_go zt_X9_measures 3 [] (if (nI 8) ≤ (nI 8) then 146 else 52) [(0, .ref 50), (1, .int hr), (2, .int (nI P)), (3, .int (nI 8))] [] μ rfl trivial ?_
    rw [if_pos (by rw [zn_le (by omega) (by omega)]; omega)]
    exact zq_drp [] [] rfl (kk μ hI)
  | succ j ih =>
    intro r μ hij hI
    obtain ⟨f, hM, hS, hC⟩ := hI
    have hD := hD0.fr hM.1 (by decide)
    have hs : μ.1 50 21 = nI m := by rw [hM.1.a (b := 50) (by decide)]; exact hsb
    refine zq_go zt_X9_measures 3 [] (if (nI 8) ≤ (nI r) then 146 else 52) [(0, .ref 50), (1, .int hr), (2, .int (nI P)), (3, .int (nI r))] [] μ rfl trivial ?_
    rw [if_neg (by rw [zn_le (by omega) (by omega)]; omega)]
    refine zq_go zt_X9_measures 2 [] 55 [(0, .ref 50), (1, .int hr), (2, .int (nI P)), (3, .int (nI r)), (4, .int (nI 0))] [] μ rfl trivial ?_
    refine zs_meas_d (f0 := f) hP hD hs hm hr (nI r) (fun μ1 hJ => ?_) nd 0 μ (by omega) ⟨f, ⟨zq_fr.rf, hM.2.1, fun _ _ => rfl⟩, hS, fun _ _ _ _ => Nat.le_refl _, fun d hd => absurd hd (Nat.not_lt_zero d)⟩
    obtain ⟨f1, hM1, hS1, hle1, hr1⟩ := hJ
    refine zq_go zt_X9_measures 2 [] 46 [(0, .ref 50), (1, .int hr), (2, .int (nI P)), (3, .int ((nI r) + (nI 1)))] [] μ1 rfl trivial ?_
    rw [zn_add r 1]
    exact ih (r + 1) μ1 (by omega) ⟨f1, ⟨hM.1.tr hM1.1, hM1.2.1, fun q hq => (hM1.2.2 q hq).trans (hM.2.2 q hq)⟩, hS1, zfC_succ (fun d hd => (hD.2.2.1 d hd).2) (fun d hd => (hD.2.2.2 d hd).2) hC hle1 hr1⟩
set_option maxRecDepth 100000 in
set_option maxHeartbeats 4000000 in
theorem zs_meas_a {Q : zq_Post} {P : Nat} (hP : P ≤ 1472) {μ0 : zq_Me} (hr : Int32) (kk : ∀ μ : zq_Me, (zq_fr [65] μ0 μ ∧ (∀ q, q < 64 → μ.1 65 (P + q) = nI (if q / 8 = q % 8 then 0 else 99)) ∧ ∀ q, (q < P ∨ P + 64 ≤ q) → μ.1 65 q = μ0.1 65 q) → zq_Wp zn_X9_measures 44 [(0, .ref 50), (1, .int hr), (2, .int (nI P))] [] μ Q) : ∀ (j i : Nat) (μ : zq_Me), i + j = 64 → (zq_fr [65] μ0 μ ∧ (∀ q, q < i → μ.1 65 (P + q) = nI (if q / 8 = q % 8 then 0 else 99)) ∧ ∀ q, (q < P ∨ P + 64 ≤ q) → μ.1 65 q = μ0.1 65 q) → zq_Wp zn_X9_measures 7 [(0, .ref 50), (1, .int hr), (2, .int (nI P)), (3, .int (nI i))] [] μ Q := by
  intro j
  induction j with
  | zero =>
    intro i μ hij hI
    obtain rfl : i = 64 := by omega
    refine zq_go zt_X9_measures 3 [] (if (nI 64) ≤ (nI 64) then 44 else 13) [(0, .ref 50), (1, .int hr), (2, .int (nI P)), (3, .int (nI 64))] [] μ rfl trivial ?_
    rw [if_pos (by rw [zn_le (by omega) (by omega)]; omega)]
    exact zq_drp [0, 1, 2] [(0, .ref 50), (1, .int hr), (2, .int (nI P))] rfl (kk μ hI)
  | succ j ih =>
    intro i μ hij hI
    refine zq_go zt_X9_measures 3 [] (if (nI 64) ≤ (nI i) then 44 else 13) [(0, .ref 50), (1, .int hr), (2, .int (nI P)), (3, .int (nI i))] [] μ rfl trivial ?_
    rw [if_neg (by rw [zn_le (by omega) (by omega)]; omega)]
    refine zq_go zt_X9_measures 12 [¬ (nI 8) = 0, ¬ (nI 8) = 0] (if ¬ ((nI i) / (nI 8)) = ((nI i) - (nI i) / (nI 8) * (nI 8)) then 35 else 31) [(0, .ref 50), (1, .int hr), (2, .int (nI P)), (3, .int (nI i))] [.int ((nI P) + (nI i)), .ref 65] μ rfl ⟨by decide, ⟨by decide, trivial⟩⟩ ?_
    rw [zn_add P i]
    rw [pk_rem (a := i) (d := 8) (by omega) (by decide) (by decide), pk_div (a := i) (d := 8) (by omega) (by decide) (by decide)]
    refine zq_ite (fun h15 => ?_) (fun h15 => ?_)
    · rw [zn_eq (by omega) (by omega)] at h15
      refine zq_go zt_X9_measures 4 [vp_in (nI (P + i)) 1536] 7 [(0, .ref 50), (1, .int hr), (2, .int (nI P)), (3, .int ((nI i) + (nI 1)))] [] (zq_u1 μ 65 ((nI (P + i)).toNatClampNeg) (nI 99)) rfl ⟨zn_in (k := P + i) rfl (by omega) (by decide), trivial⟩ ?_
      rw [zn_add i 1, zn_cl (n := P + i) (by omega)]
      refine ih (i + 1) _ (by omega) ⟨hI.1.u1 (by simp), fun q hq => ?_, fun q hq => by rw [zq_u1_o2 (by omega)]; exact hI.2.2 q hq⟩
      rw [zq_u1_rd]
      by_cases h8 : q = i
      · subst h8
        rw [if_pos rfl, if_neg h15]
      · rw [if_neg (by omega)]
        exact hI.2.1 q (by omega)
    · have h15q : i / 8 = i % 8 := by
        rw [zn_eq (by omega) (by omega)] at h15
        omega
      refine zq_go zt_X9_measures 2 [] 37 [(0, .ref 50), (1, .int hr), (2, .int (nI P)), (3, .int (nI i))] [.int (nI 0), .int (nI (P + i)), .ref 65] μ rfl trivial ?_
      refine zq_go zt_X9_measures 3 [vp_in (nI (P + i)) 1536] 7 [(0, .ref 50), (1, .int hr), (2, .int (nI P)), (3, .int ((nI i) + (nI 1)))] [] (zq_u1 μ 65 ((nI (P + i)).toNatClampNeg) (nI 0)) rfl ⟨zn_in (k := P + i) rfl (by omega) (by decide), trivial⟩ ?_
      rw [zn_add i 1, zn_cl (n := P + i) (by omega)]
      refine ih (i + 1) _ (by omega) ⟨hI.1.u1 (by simp), fun q hq => ?_, fun q hq => by rw [zq_u1_o2 (by omega)]; exact hI.2.2 q hq⟩
      rw [zq_u1_rd]
      by_cases h8 : q = i
      · subst h8
        rw [if_pos rfl, if_pos h15q]
      · rw [if_neg (by omega)]
        exact hI.2.1 q (by omega)
set_option maxRecDepth 100000 in
set_option maxHeartbeats 4000000 in
theorem zs_measures {nd m h : Nat} {o1 o2 : Nat → Nat} {μ : zq_Me} (hh : h < 24) (hD : zDm nd o1 o2 μ) (hsb : μ.1 50 21 = nI m) (hm : m < 2 ^ 31) : zq_Wp zn_X9_measures 0 [(0, .ref 50), (1, .int (nI h))] [] μ (fun r μ' => r = none ∧ zq_fr [65] μ μ' ∧ (∀ x c, x < 8 → c < 8 → μ'.1 65 (64 * h + 8 * x + c) = nI (zfD (zg_d (zg_adj o1 o2 m nd) c x))) ∧ ∀ q, (q < 64 * h ∨ 64 * h + 64 ≤ q) → μ'.1 65 q = μ.1 65 q) := by
  refine zq_go zt_X9_measures 6 [] 7 [(0, .ref 50), (1, .int (nI h)), (2, .int ((nI 64) * (nI h))), (3, .int (nI 0))] [] μ rfl trivial ?_
  rw [zn_mul 64 h]
  refine zs_meas_a (P := 64 * h) (by omega) (nI h) (fun μ1 hI => ?_) 64 0 μ (by omega) ⟨zq_fr.rf, fun q hq => absurd hq (Nat.not_lt_zero q), fun _ _ => rfl⟩
  refine zq_go zt_X9_measures 2 [] 46 [(0, .ref 50), (1, .int (nI h)), (2, .int (nI (64 * h))), (3, .int (nI 0))] [] μ1 rfl trivial ?_
  have hM : zfM (64 * h) (fun x c => if x = c then 0 else 99) μ μ1 := by
    refine ⟨hI.1, fun x c hx hc => ?_, hI.2.2⟩
    have h1 : (8 * x + c) / 8 = x := by omega
    have h2 : (8 * x + c) % 8 = c := by omega
    rw [show 64 * h + 8 * x + c = 64 * h + (8 * x + c) by omega, hI.2.1 (8 * x + c) (by omega), h1, h2]
  have hS : zfS (zg_adj o1 o2 m nd) (fun x c => if x = c then 0 else 99) := by
    intro x c hx hc
    by_cases hxc : x = c
    · subst hxc; simp [zg_b]
    · simp [hxc]
  have hC : zfC (zg_adj o1 o2 m nd) 0 (fun x c => if x = c then 0 else 99) := by
    intro k x c hk hx hc hb
    obtain rfl : k = 0 := by omega
    have hxc : x = c := by simpa [zg_b] using hb
    simp [hxc]
  refine zs_meas_r (μ0 := μ1) (P := 64 * h) (by omega) (hD.fr hI.1 (by decide)) (by rw [hI.1.a (b := 50) (by decide)]; exact hsb) hm (nI h) (fun μ2 hJ => ?_) 8 0 μ1 (by omega) ⟨_, ⟨zq_fr.rf, hM.2.1, fun _ _ => rfl⟩, hS, hC⟩
  obtain ⟨f, hM2, hS2, hC2⟩ := hJ
  exact zq_retn zt_X9_measures rfl rfl ⟨rfl, hI.1.tr hM2.1, fun x c hx hc => by rw [hM2.2.1 x c hx hc, zf_end hS2 hC2 x c hx hc], fun q hq => (hM2.2.2 q hq).trans (hI.2.2 q hq)⟩
