/-! ===== the hours' methods on both sides: at, room, far, meet, empty, found, crowd, alone ===== -/
theorem zb_n {p : Prop} [Decidable p] (h : p) : ¬ zb p = 0 := fun q => zb_0.mp q h
theorem zb_p {p : Prop} [Decidable p] (h : ¬ zb p = 0) : p := Classical.byContradiction (fun q => h (zb_0.mpr q))
theorem yin {n m : Nat} (h : n ≤ m) (hm : m < 2 ^ 31) : 0 ≤ nI n ∧ nI n ≤ nI m := ⟨zn_0le (by omega), by rw [zn_le (by omega) hm]; exact h⟩
theorem yip {n m : Nat} (h : n < m) (hm : m < 2 ^ 31) : 0 ≤ nI n ∧ nI n ≤ nI m - nI 1 := by rw [zn_sub (by omega)]; exact yin (by omega) (by omega)
/-- both sides answer the same, and stand alike behind it -/
def zop (kc : Nat) (lc : zq_Lo) (km : Nat) (lm : zq_Lo) : Prop := ∀ (τ : zTd) (S : zES) (H : zSH) (μ : zq_Me), zIc τ S H μ → zIm τ S H μ → ∃ (r : Value) (τ' : zTd) (S' : zES) (H' : zSH), zq_Wp kc 0 lc [] μ (zRc r τ' S' H' μ) ∧ ∀ μ1, zIm τ S H μ1 → zq_Wp km 0 lm [] μ1 (zRm' r τ' S' H' μ1)
def yfI (d : Nat) : Int32 := if d < 8 then nI d else -1
/-! the first place of the greatest -/
def zam (f : Nat → Nat) : Nat → Nat
  | 0 => 0
  | n + 1 => if zmx f n < f n then n else zam f n
theorem zmx_s (f : Nat → Nat) (n : Nat) : zmx f (n + 1) = if zmx f n < f n then f n else zmx f n := rfl
theorem zmx_ge {f : Nat → Nat} : ∀ {n i : Nat}, i < n → f i ≤ zmx f n
  | 0, i, h => absurd h (Nat.not_lt_zero i)
  | n + 1, i, h => by
    rw [zmx_s]
    by_cases e : i = n
    · subst e
      split <;> omega
    · have := zmx_ge (f := f) (n := n) (i := i) (by omega)
      split <;> omega
theorem zam_at {f : Nat → Nat} : ∀ {n : Nat}, 0 < n → f (zam f n) = zmx f n ∧ zam f n < n
  | 0, h => absurd h (Nat.not_lt_zero 0)
  | n + 1, _ => by
    rw [zmx_s]
    show f (if zmx f n < f n then n else zam f n) = _ ∧ (if zmx f n < f n then n else zam f n) < n + 1
    by_cases h : zmx f n < f n
    · rw [if_pos h, if_pos h]; exact ⟨rfl, by omega⟩
    · rw [if_neg h, if_neg h]
      by_cases h0 : n = 0
      · subst h0
        have : zmx f 0 = 0 := rfl
        have e : zam f 0 = 0 := rfl
        rw [e]
        exact ⟨by omega, by omega⟩
      · have ih := zam_at (f := f) (n := n) (by omega)
        exact ⟨ih.1, by omega⟩
theorem zam_lt {f : Nat → Nat} : ∀ {n i : Nat}, i < zam f n → f i < zmx f n
  | 0, i, h => absurd h (Nat.not_lt_zero i)
  | n + 1, i, h => by
    have h : i < (if zmx f n < f n then n else zam f n) := h
    rw [zmx_s]
    by_cases hc : zmx f n < f n
    · rw [if_pos hc] at h ⊢
      have := zmx_ge (f := f) h
      omega
    · rw [if_neg hc] at h ⊢
      exact zam_lt h
theorem zam_eq {f : Nat → Nat} {n k : Nat} (hk : k < n) (h : f k = zmx f n) (hm : ∀ i, i < k → f i < zmx f n) : zam f n = k := by
  obtain ⟨a, b⟩ := zam_at (f := f) (n := n) (by omega)
  by_cases h1 : zam f n < k
  · have := hm _ h1; omega
  · by_cases h2 : k < zam f n
    · have := zam_lt h2; omega
    · omega
def ycc (np : Nat) (R : Nat → Nat → Nat) (c : Nat) : Nat := zcnt np R (c / 8) (c % 8)
def ycr (np : Nat) (R : Nat → Nat → Nat) : Nat := zf (fun r => decide (zcnt np R (zam (zmo np R) 24) r = zmo np R (zam (zmo np R) 24))) 8
theorem ycr_spec (np : Nat) (R : Nat → Nat → Nat) : ycr np R < 8 ∧ zcnt np R (zam (zmo np R) 24) (ycr np R) = zmo np R (zam (zmo np R) 24) ∧ ∀ i, i < ycr np R → zcnt np R (zam (zmo np R) 24) i < zmo np R (zam (zmo np R) 24) := by
  have hm := zam_at (f := zcnt np R (zam (zmo np R) 24)) (n := 8) (by decide)
  have hl : ycr np R < 8 := zf_ex.mpr ⟨_, hm.2, decide_eq_true hm.1⟩
  refine ⟨hl, of_decide_eq_true (zf_hit _ _ hl), fun i hi => ?_⟩
  have h1 := of_decide_eq_false (zf_min _ _ _ hi)
  have h2 : zcnt np R (zam (zmo np R) 24) i ≤ zmo np R (zam (zmo np R) 24) := zmx_ge (by omega)
  omega
theorem ycc_am (np : Nat) (R : Nat → Nat → Nat) : zam (ycc np R) 192 = 8 * zam (zmo np R) 24 + ycr np R ∧ zmx (ycc np R) 192 = zmo np R (zam (zmo np R) 24) := by
  obtain ⟨a, b⟩ := zam_at (f := zmo np R) (n := 24) (by decide)
  obtain ⟨r1, r2, r3⟩ := ycr_spec np R
  have hk : 8 * zam (zmo np R) 24 + ycr np R < 192 := by omega
  have e : ycc np R (8 * zam (zmo np R) 24 + ycr np R) = zmo np R (zam (zmo np R) 24) := by
    unfold ycc
    rw [show (8 * zam (zmo np R) 24 + ycr np R) / 8 = zam (zmo np R) 24 by omega, show (8 * zam (zmo np R) 24 + ycr np R) % 8 = ycr np R by omega]
    exact r2
  have hle : ∀ i, i < 192 → ycc np R i ≤ zmo np R (zam (zmo np R) 24) := fun i hi => by
    have h1 : ycc np R i ≤ zmo np R (i / 8) := zmx_ge (f := zcnt np R (i / 8)) (by omega)
    have h2 := zmx_ge (f := zmo np R) (n := 24) (i := i / 8) (by omega)
    omega
  have hz : zmx (ycc np R) 192 = zmo np R (zam (zmo np R) 24) := by
    have h1 := zmx_ge (f := ycc np R) hk
    obtain ⟨h2, h3⟩ := zam_at (f := ycc np R) (n := 192) (by decide)
    have h4 := hle _ h3
    omega
  refine ⟨zam_eq hk (by rw [hz]; exact e) (fun i hi => ?_), hz⟩
  rw [hz]
  by_cases h8 : i / 8 = zam (zmo np R) 24
  · have := r3 (i % 8) (by omega)
    unfold ycc
    rw [h8]
    exact this
  · have h1 : ycc np R i ≤ zmo np R (i / 8) := zmx_ge (f := zcnt np R (i / 8)) (by omega)
    have h2 := zam_lt (f := zmo np R) (n := 24) (i := i / 8) (by omega)
    omega
set_option maxRecDepth 100000 in
set_option maxHeartbeats 400000 in
theorem zs_doors33_l {nd ld ne wo : Nat} {o1 o2 ek eh en : Nat → Nat} {μ : zq_Me} (hW : zWk33 nd ld o1 o2 ek eh en wo ne μ) {h t : Nat} (hh : h < 24) (ht : t < 8) {D : Nat} : ∀ (j k x : Nat), k + j = 8 → x < 8 → (zg_d (zg_adj o1 o2 (zSh ek eh en wo ne h) nd) t x < 8 ∧ zg_d (zg_adj o1 o2 (zSh ek eh en wo ne h) nd) t x + k = D ∨ zg_d (zg_adj o1 o2 (zSh ek eh en wo ne h) nd) t x = 8 ∧ D = 8) → zq_Wp zn_X7_doorsBetween 6 [(0, .ref 33), (1, .int (nI h)), (3, .int (nI t)), (4, .int (nI x)), (5, .int (nI k))] [] μ (zq_pi (yfI D) μ) := by
  intro j
  induction j with
  | zero =>
    intro k x hkj hx hd
    refine zq_go zt_X7_doorsBetween 3 [] (if (nI 8) ≤ (nI k) then 49 else 13) [(0, .ref 33), (1, .int (nI h)), (3, .int (nI t)), (4, .int (nI x)), (5, .int (nI k))] [] μ rfl trivial ?_
    rw [if_pos (by rw [zn_le (by omega) (by omega)]; omega)]
    refine zq_go zt_X7_doorsBetween 1 [] 50 [(0, .ref 33), (1, .int (nI h)), (3, .int (nI t)), (4, .int (nI x)), (5, .int (nI k))] [.int (-1)] μ rfl trivial ?_
    have e9 : yfI D = -1 := if_neg (by omega)
    rw [e9]
    exact zq_retn zt_X7_doorsBetween rfl rfl (⟨rfl, rfl⟩)
  | succ j ih =>
    intro k x hkj hx hd
    refine zq_go zt_X7_doorsBetween 3 [] (if (nI 8) ≤ (nI k) then 49 else 13) [(0, .ref 33), (1, .int (nI h)), (3, .int (nI t)), (4, .int (nI x)), (5, .int (nI k))] [] μ rfl trivial ?_
    rw [if_neg (by rw [zn_le (by omega) (by omega)]; omega)]
    refine zq_go zt_X7_doorsBetween 3 [] (if ¬ (nI x) = (nI t) then 22 else 19) [(0, .ref 33), (1, .int (nI h)), (3, .int (nI t)), (4, .int (nI x)), (5, .int (nI k))] [] μ rfl trivial ?_
    refine zq_ite (fun h15 => ?_) (fun h15 => ?_)
    · rw [zn_eq (by omega) (by omega)] at h15
      have hx9 := hW.2.2.2 h x t hh hx ht
      have hs9 := (hW.2.2.1 h hh).2
      have h0 : ¬ zg_d (zg_adj o1 o2 (zSh ek eh en wo ne h) nd) t x = 0 := fun q => h15 (zg_d_0 q)
      have hle := zg_d_le (a := zg_adj o1 o2 (zSh ek eh en wo ne h) nd) (t := t) x
      refine zq_go zt_X7_doorsBetween 16 [vp_in (nI h) 24, vp_in (((μ.1 37 ((nI h).toNatClampNeg)) + ((nI x) * (nI 8))) + (nI t)) 576] 6 [(0, .ref 33), (1, .int (nI h)), (3, .int (nI t)), (4, .int (μ.1 38 ((((μ.1 37 ((nI h).toNatClampNeg)) + ((nI x) * (nI 8))) + (nI t)).toNatClampNeg))), (5, .int ((nI k) + (nI 1)))] [] μ rfl ⟨zn_in (k := h) rfl (by omega) (by decide), ⟨zn_in (k := ((zsp (zSh ek eh en wo ne) h * 64) + (x * 8)) + t) (by rw [zn_cl (n := h) (by omega), (hW.2.2.1 h hh).1, zn_mul x 8, zn_add (zsp (zSh ek eh en wo ne) h * 64) (x * 8), zn_add ((zsp (zSh ek eh en wo ne) h * 64) + (x * 8)) t]) (by omega) (by decide), trivial⟩⟩ ?_
      rw [zn_cl (n := h) (by omega), (hW.2.2.1 h hh).1, zn_mul x 8, zn_add (zsp (zSh ek eh en wo ne) h * 64) (x * 8), zn_add ((zsp (zSh ek eh en wo ne) h * 64) + (x * 8)) t, zn_cl (n := ((zsp (zSh ek eh en wo ne) h * 64) + (x * 8)) + t) (by omega), hx9, zn_add k 1]
      have eN : zNx nd o1 o2 (zSh ek eh en wo ne) h t x = zg_n (zg_adj o1 o2 (zSh ek eh en wo ne h) nd) t x := rfl
      refine ih (k + 1) (zNx nd o1 o2 (zSh ek eh en wo ne) h t x) (by omega) (zNx_lt h t x hh ht hx) ?_
      rw [eN]
      by_cases h8 : zg_d (zg_adj o1 o2 (zSh ek eh en wo ne h) nd) t x < 8
      · have h9 := (zg_n_spec (by omega) h8).2.2.1
        exact Or.inl ⟨by omega, by omega⟩
      · rw [zg_n_0 (by omega)]
        exact Or.inr ⟨by omega, by omega⟩
    · rw [zn_eq (by omega) (by omega)] at h15
      have h7 : x = t := by omega
      have h8 : zg_d (zg_adj o1 o2 (zSh ek eh en wo ne h) nd) t x = 0 := by rw [h7]; exact zg_d0 t
      have e9 : yfI D = nI k := by
        have : D = k := by omega
        rw [this]
        exact if_pos (by omega)
      refine zq_go zt_X7_doorsBetween 1 [] 21 [(0, .ref 33), (1, .int (nI h)), (3, .int (nI t)), (4, .int (nI x)), (5, .int (nI k))] [.int (nI k)] μ rfl trivial ?_
      rw [e9]
      exact zq_retn zt_X7_doorsBetween rfl rfl (⟨rfl, rfl⟩)
set_option maxRecDepth 100000 in
set_option maxHeartbeats 400000 in
theorem zs_doors33 {nd ld ne wo : Nat} {o1 o2 ek eh en : Nat → Nat} {μ : zq_Me} (hW : zWk33 nd ld o1 o2 ek eh en wo ne μ) {h t : Nat} (hh : h < 24) (ht : t < 8) {x : Nat} (hx : x < 8) : zq_Wp zn_X7_doorsBetween 0 [(0, .ref 33), (1, .int (nI h)), (2, .int (nI x)), (3, .int (nI t))] [] μ (zq_pi (yfI (zg_d (zg_adj o1 o2 (zSh ek eh en wo ne h) nd) t x)) μ) := by
  refine zq_go zt_X7_doorsBetween 4 [] 6 [(0, .ref 33), (1, .int (nI h)), (2, .int (nI x)), (3, .int (nI t)), (4, .int (nI x)), (5, .int (nI 0))] [] μ rfl trivial ?_
  refine zq_drp [0, 1, 3, 4, 5] _ rfl (zs_doors33_l hW hh ht (D := zg_d (zg_adj o1 o2 (zSh ek eh en wo ne h) nd) t x) 8 0 x (by omega) hx ?_)
  have hle := zg_d_le (a := zg_adj o1 o2 (zSh ek eh en wo ne h) nd) (t := t) x
  by_cases h8 : zg_d (zg_adj o1 o2 (zSh ek eh en wo ne h) nd) t x < 8
  · exact Or.inl ⟨h8, Nat.add_zero _⟩
  · exact Or.inr ⟨by omega, by omega⟩
set_option maxRecDepth 100000 in
set_option maxHeartbeats 400000 in
theorem zs_firstRoom33_l {np : Nat} {R : Nat → Nat → Nat} {μ : zq_Me} (hQ : zQ33 np R μ) {h n : Nat} (hh : h < 24) (hn : n < 2 ^ 31) : ∀ (j r : Nat), r + j = 8 → (∀ i, i < r → (fun r => decide (zcnt np R h r = n)) i = false) → zq_Wp zn_X7_firstRoomOf 2 [(0, .ref 33), (1, .int (nI h)), (2, .int (nI n)), (3, .int (nI r))] [] μ (zq_pi (zfI (fun r => decide (zcnt np R h r = n)) 8) μ) := by
  intro j
  induction j with
  | zero =>
    intro r hij hN9
    refine zq_go zt_X7_firstRoomOf 3 [] (if (nI 8) ≤ (nI r) then 29 else 8) [(0, .ref 33), (1, .int (nI h)), (2, .int (nI n)), (3, .int (nI r))] [] μ rfl trivial ?_
    rw [if_pos (by rw [zn_le (by omega) (by omega)]; omega)]
    refine zq_go zt_X7_firstRoomOf 1 [] 30 [(0, .ref 33), (1, .int (nI h)), (2, .int (nI n)), (3, .int (nI r))] [.int (-1)] μ rfl trivial ?_
    have e9 : zfI (fun r => decide (zcnt np R h r = n)) 8 = -1 := zfI_f (fun i hi => hN9 i (by omega))
    rw [e9]
    exact zq_retn zt_X7_firstRoomOf rfl rfl (⟨rfl, rfl⟩)
  | succ j ih =>
    intro r hij hN9
    have hc9 := zcnt_le np R h r
    refine zq_go zt_X7_firstRoomOf 3 [] (if (nI 8) ≤ (nI r) then 29 else 8) [(0, .ref 33), (1, .int (nI h)), (2, .int (nI n)), (3, .int (nI r))] [] μ rfl trivial ?_
    rw [if_neg (by rw [zn_le (by omega) (by omega)]; omega)]
    refine zq_go zt_X7_firstRoomOf 3 [] 11 [(0, .ref 33), (1, .int (nI h)), (2, .int (nI n)), (3, .int (nI r))] [.int (nI r), .int (nI h), .ref 33] μ rfl trivial ?_
    refine zq_call zt_X7_firstRoomOf [.ref 33, .int (nI h), .int (nI r)] [] (zs_whoIn33 hQ hh (show r < 2 ^ 31 by omega)) rfl rfl ?_
    rintro _ _ ⟨rfl, rfl⟩
    refine zq_call zt_X7_firstRoomOf [.int (nI (zwho np R h r))] [] (zs_bc (n := zwho np R h r) (Nat.lt_trans (zwho_lt hQ.1 R h r) (by decide)) μ) rfl rfl ?_
    rintro _ _ ⟨rfl, rfl⟩
    refine zq_go zt_X7_firstRoomOf 2 [] (if ¬ (nI (zcnt np R h r)) = (nI n) then 23 else 21) [(0, .ref 33), (1, .int (nI h)), (2, .int (nI n)), (3, .int (nI r))] [] μ rfl trivial ?_
    refine zq_ite (fun h21 => ?_) (fun h21 => ?_)
    · rw [zn_eq (by omega) (by omega)] at h21
      refine zq_go zt_X7_firstRoomOf 2 [] 2 [(0, .ref 33), (1, .int (nI h)), (2, .int (nI n)), (3, .int ((nI r) + (nI 1)))] [] μ rfl trivial ?_
      rw [zn_add r 1]
      exact ih (r + 1) (by omega) (zlt_s hN9 (decide_eq_false h21))
    · rw [zn_eq (by omega) (by omega)] at h21
      have h7 := Classical.not_not.mp h21
      refine zq_go zt_X7_firstRoomOf 1 [] 22 [(0, .ref 33), (1, .int (nI h)), (2, .int (nI n)), (3, .int (nI r))] [.int (nI r)] μ rfl trivial ?_
      rw [zfI_t (p := fun r => decide (zcnt np R h r = n)) (n := 8) (k := r) (by omega) (decide_eq_true h7) hN9]
      exact zq_retn zt_X7_firstRoomOf rfl rfl (⟨rfl, rfl⟩)
set_option maxRecDepth 100000 in
set_option maxHeartbeats 400000 in
theorem zs_firstRoom33 {np : Nat} {R : Nat → Nat → Nat} {μ : zq_Me} (hQ : zQ33 np R μ) {h n : Nat} (hh : h < 24) (hn : n < 2 ^ 31) : zq_Wp zn_X7_firstRoomOf 0 [(0, .ref 33), (1, .int (nI h)), (2, .int (nI n))] [] μ (zq_pi (zfI (fun r => decide (zcnt np R h r = n)) 8) μ) := by
  refine zq_go zt_X7_firstRoomOf 2 [] 2 [(0, .ref 33), (1, .int (nI h)), (2, .int (nI n)), (3, .int (nI 0))] [] μ rfl trivial ?_
  exact zs_firstRoom33_l hQ hh hn 8 0 (by omega) (fun i hi => absurd hi (Nat.not_lt_zero i))
def yAt (τ : zTd) (h p w : Nat) : Int32 := if (if w = 0 then h else h + yld τ) ≤ 23 then nI (yRt τ 0 p (if w = 0 then h else h + yld τ)) else -1
def vAt (τ : zTd) (v1 v2 v3 : Int32) : Int32 := if (0 ≤ v1 ∧ v1 ≤ nI 23) ∧ (0 ≤ v2 ∧ v2 ≤ nI (ynp τ) - nI 1) ∧ (0 ≤ v3 ∧ v3 ≤ nI 1) then yAt τ v1.toNatClampNeg v2.toNatClampNeg v3.toNatClampNeg else -2
def yFar (τ : zTd) (h x t : Nat) : Int32 := yfI (zg_d (zg_adj (yo1 τ) (yo2 τ) (zSh (yek τ) (yeh τ) (yen τ) 0 (yne τ) h) (ynd τ)) t x)
def vFar (τ : zTd) (v1 v2 v3 : Int32) : Int32 := if (0 ≤ v1 ∧ v1 ≤ nI 23) ∧ (0 ≤ v2 ∧ v2 ≤ nI 7) ∧ (0 ≤ v3 ∧ v3 ≤ nI 7) then yFar τ v1.toNatClampNeg v2.toNatClampNeg v3.toNatClampNeg else -2
def vRoom (τ : zTd) (v1 v2 : Int32) : Int32 := if (0 ≤ v1 ∧ v1 ≤ nI 23) ∧ (0 ≤ v2 ∧ v2 ≤ nI 7) then nI (zwho (ynp τ) (yRt τ 0) v1.toNatClampNeg v2.toNatClampNeg) else -2
def vEmpty (τ : zTd) (v1 : Int32) : Int32 := if 0 ≤ v1 ∧ v1 ≤ nI 7 then nI (zemp (ynp τ) (yRt τ 0) v1.toNatClampNeg) else -2
def yMeet (τ : zTd) (a b : Nat) : Int32 := zfI (fun h => decide (yRt τ 0 a h = yRt τ 0 b h)) 24
def vFound (τ : zTd) (v1 : Int32) : Int32 := if 0 ≤ v1 ∧ v1 ≤ nI 2 then zfv (ysr τ) (ynp τ) (yRt τ 0) v1 else -2
def yCrowd (τ : zTd) (w : Nat) : Nat := if w = 0 then zam (zmo (ynp τ) (yRt τ 0)) 24 else if w = 1 then ycr (ynp τ) (yRt τ 0) else zmo (ynp τ) (yRt τ 0) (zam (zmo (ynp τ) (yRt τ 0)) 24)
def vCrowd (τ : zTd) (v1 : Int32) : Int32 := if 0 ≤ v1 ∧ v1 ≤ nI 2 then nI (yCrowd τ v1.toNatClampNeg) else -2
theorem vAt_eq {τ : zTd} {h p w : Nat} (h1 : h ≤ 23) (h2 : p < ynp τ) (h3 : w ≤ 1) (hp : ynp τ ≤ 8) : vAt τ (nI h) (nI p) (nI w) = yAt τ h p w := by
  unfold vAt
  rw [if_pos ⟨yin h1 (by decide), yip h2 (by omega), yin h3 (by decide)⟩, zn_cl (by omega), zn_cl (by omega), zn_cl (by omega)]
theorem vFar_eq {τ : zTd} {h x t : Nat} (h1 : h ≤ 23) (h2 : x ≤ 7) (h3 : t ≤ 7) : vFar τ (nI h) (nI x) (nI t) = yFar τ h x t := by
  unfold vFar
  rw [if_pos ⟨yin h1 (by decide), yin h2 (by decide), yin h3 (by decide)⟩, zn_cl (by omega), zn_cl (by omega), zn_cl (by omega)]
theorem vRoom_eq {τ : zTd} {h x : Nat} (h1 : h ≤ 23) (h2 : x ≤ 7) : vRoom τ (nI h) (nI x) = nI (zwho (ynp τ) (yRt τ 0) h x) := by
  unfold vRoom
  rw [if_pos ⟨yin h1 (by decide), yin h2 (by decide)⟩, zn_cl (by omega), zn_cl (by omega)]
theorem vEmpty_eq {τ : zTd} {x : Nat} (h2 : x ≤ 7) : vEmpty τ (nI x) = nI (zemp (ynp τ) (yRt τ 0) x) := by
  unfold vEmpty
  rw [if_pos (yin h2 (by decide)), zn_cl (by omega)]
theorem vFound_eq {τ : zTd} {x : Nat} (h2 : x ≤ 2) : vFound τ (nI x) = zfv (ysr τ) (ynp τ) (yRt τ 0) (nI x) := if_pos (yin h2 (by decide))
theorem vCrowd_eq {τ : zTd} {x : Nat} (h2 : x ≤ 2) : vCrowd τ (nI x) = nI (yCrowd τ x) := by
  unfold vCrowd
  rw [if_pos (yin h2 (by decide)), zn_cl (by omega)]
set_option maxRecDepth 100000 in
set_option maxHeartbeats 400000 in
theorem zs_at {τ : zTd} {S : zES} {H : zSH} {μ0 : zq_Me} (v1 v2 v3 : Int32) (hC : zIc τ S H μ0) : zq_Wp zn_X8_at 0 [(0, .ref 0), (1, .int v1), (2, .int v2), (3, .int v3)] [] μ0 (zRc (.int (vAt τ v1 v2 v3)) τ S H μ0) := by
  have hnp := hC.2.1.2.1
  refine zq_go zt_X8_at 1 [] 1 [(0, .ref 0), (1, .int v1), (2, .int v2), (3, .int v3)] [.int v1] μ0 rfl trivial ?_
  refine zq_call zt_X8_at [.int v1] [] (zs_isHour v1 μ0) rfl rfl ?_
  rintro _ _ ⟨rfl, rfl⟩
  refine zq_go zt_X8_at 1 [] (if (zb (0 ≤ v1 ∧ v1 ≤ nI 23)) = 0 then 24 else 7) [(0, .ref 0), (1, .int v1), (2, .int v2), (3, .int v3)] [] μ0 rfl trivial ?_
  refine zq_ite (fun h5 => ?_) (fun h5 => ?_)
  · rw [show vAt τ v1 v2 v3 = -2 from if_neg (fun q => zb_0.mp h5 q.1)]
    refine zq_go zt_X8_at 1 [] 26 [(0, .ref 0), (1, .int v1), (2, .int v2), (3, .int v3)] [.int (-2)] μ0 rfl trivial ?_
    exact zq_retn zt_X8_at rfl rfl (⟨rfl, hC, zq_fr.rf⟩)
  · have g0 := zb_p h5
    refine zq_go zt_X8_at 2 [] 9 [(0, .ref 0), (1, .int v1), (2, .int v2), (3, .int v3)] [.int v2, .ref 0] μ0 rfl trivial ?_
    refine zq_call zt_X8_at [.ref 0, .int v2] [] (zs_isPerson v2 hC) rfl rfl ?_
    rintro _ _ ⟨rfl, rfl⟩
    refine zq_go zt_X8_at 1 [] (if (zb (0 ≤ v2 ∧ v2 ≤ nI (ynp τ) - nI 1)) = 0 then 24 else 15) [(0, .ref 0), (1, .int v1), (2, .int v2), (3, .int v3)] [] μ0 rfl trivial ?_
    refine zq_ite (fun h14 => ?_) (fun h14 => ?_)
    · rw [show vAt τ v1 v2 v3 = -2 from if_neg (fun q => zb_0.mp h14 q.2.1)]
      refine zq_go zt_X8_at 1 [] 26 [(0, .ref 0), (1, .int v1), (2, .int v2), (3, .int v3)] [.int (-2)] μ0 rfl trivial ?_
      exact zq_retn zt_X8_at rfl rfl (⟨rfl, hC, zq_fr.rf⟩)
    · have g1 := zb_p h14
      refine zq_go zt_X8_at 3 [] 18 [(0, .ref 0), (1, .int v1), (2, .int v2), (3, .int v3)] [.int (nI 1), .int (nI 0), .int v3] μ0 rfl trivial ?_
      refine zq_call zt_X8_at [.int v3, .int (nI 0), .int (nI 1)] [] (zs_within v3 (nI 0) (nI 1) μ0) rfl rfl ?_
      rintro _ _ ⟨rfl, rfl⟩
      refine zq_go zt_X8_at 1 [] (if ¬ (zb (0 ≤ v3 ∧ v3 ≤ nI 1)) = 0 then 27 else 24) [(0, .ref 0), (1, .int v1), (2, .int v2), (3, .int v3)] [] μ0 rfl trivial ?_
      refine zq_ite (fun h23 => ?_) (fun h23 => ?_)
      · have g2 := zb_p h23
        obtain ⟨h, lh, eh⟩ := yix (by decide) g0
        subst eh
        obtain ⟨p, lp, ep⟩ := ypx (by have := hnp; omega) g1
        subst ep
        obtain ⟨w, lw, ew⟩ := yix (by decide) g2
        subst ew
        rw [vAt_eq lh lp lw hnp]
        refine zq_go zt_X8_at 2 [] (if ¬ (nI w) = 0 then 35 else 31) [(0, .ref 0), (1, .int (nI h)), (2, .int (nI p)), (3, .int (nI w))] [] μ0 rfl trivial ?_
        refine zq_ite (fun h33 => ?_) (fun h33 => ?_)
        · have h7 : ¬ w = 0 := by
            rw [show (0 : Int32) = nI 0 from rfl, zn_eq (by omega) (by omega)] at h33
            exact h33
          have e0 : yAt τ h p w = if h + yld τ ≤ 23 then nI (yRt τ 0 p (h + yld τ)) else -1 := by unfold yAt; rw [if_neg h7]
          rw [e0]
          have hl9 := hC.2.2.1.2.2
          refine zq_go zt_X8_at 8 [] (if ((nI h) + (μ0.1 0 12)) ≤ (nI 23) then 54 else 50) [(0, .ref 0), (1, .int (nI h)), (2, .int (nI p)), (3, .int (nI w)), (4, .int ((nI h) + (μ0.1 0 12)))] [] μ0 rfl trivial ?_
          rw [hC.2.2.1.1, zn_add h (yld τ)]
          refine zq_ite (fun h42 => ?_) (fun h42 => ?_)
          · rw [zn_le (by omega) (by omega)] at h42
            rw [if_pos h42]
            refine zq_go zt_X8_at 1 [] 55 [(0, .ref 0), (1, .int (nI h)), (2, .int (nI p)), (3, .int (nI w)), (4, .int (nI (h + (yld τ))))] [.ref 0] μ0 rfl trivial ?_
            refine zq_call zt_X8_at [.ref 0] [] (zs_weekAsTold hC) rfl rfl ?_
            rintro _ μ1 ⟨rfl, hC1, f1, hs1⟩
            refine zq_go zt_X8_at 2 [] 61 [(0, .ref 0), (1, .int (nI h)), (2, .int (nI p)), (3, .int (nI w)), (4, .int (nI (h + (yld τ))))] [.int (nI p), .int (nI (h + (yld τ))), .ref 33] μ1 rfl trivial ?_
            refine zq_call zt_X8_at [.ref 33, .int (nI (h + (yld τ))), .int (nI p)] [] (zs_roomOf33 (show h + yld τ < 24 by omega) (show p < 8 by omega) (hs1.2.2.2 p (h + yld τ) lp (by omega)).1) rfl rfl ?_
            rintro _ _ ⟨rfl, rfl⟩
            exact zq_retn zt_X8_at rfl rfl (⟨rfl, hC1, f1.wk (by simp +contextual [zSC])⟩)
          · rw [zn_le (by omega) (by omega)] at h42
            rw [if_neg h42]
            refine zq_go zt_X8_at 2 [] 64 [(0, .ref 0), (1, .int (nI h)), (2, .int (nI p)), (3, .int (nI w)), (4, .int (nI (h + (yld τ))))] [.int (-1)] μ0 rfl trivial ?_
            exact zq_retn zt_X8_at rfl rfl (⟨rfl, hC, zq_fr.rf⟩)
        · have h7 : w = 0 := by
            rw [show (0 : Int32) = nI 0 from rfl, zn_eq (by omega) (by omega)] at h33
            omega
          have e0 : yAt τ h p w = if h ≤ 23 then nI (yRt τ 0 p (h)) else -1 := by unfold yAt; rw [if_pos h7]
          rw [e0]
          have hl9 := hC.2.2.1.2.2
          refine zq_go zt_X8_at 2 [] 41 [(0, .ref 0), (1, .int (nI h)), (2, .int (nI p)), (3, .int (nI w))] [.int (nI h)] μ0 rfl trivial ?_
          refine zq_go zt_X8_at 4 [] (if (nI h) ≤ (nI 23) then 54 else 50) [(0, .ref 0), (1, .int (nI h)), (2, .int (nI p)), (3, .int (nI w)), (4, .int (nI h))] [] μ0 rfl trivial ?_
          refine zq_ite (fun h64 => ?_) (fun h64 => ?_)
          · rw [zn_le (by omega) (by omega)] at h64
            rw [if_pos h64]
            refine zq_go zt_X8_at 1 [] 55 [(0, .ref 0), (1, .int (nI h)), (2, .int (nI p)), (3, .int (nI w)), (4, .int (nI h))] [.ref 0] μ0 rfl trivial ?_
            refine zq_call zt_X8_at [.ref 0] [] (zs_weekAsTold hC) rfl rfl ?_
            rintro _ μ1 ⟨rfl, hC1, f1, hs1⟩
            refine zq_go zt_X8_at 2 [] 61 [(0, .ref 0), (1, .int (nI h)), (2, .int (nI p)), (3, .int (nI w)), (4, .int (nI h))] [.int (nI p), .int (nI h), .ref 33] μ1 rfl trivial ?_
            refine zq_call zt_X8_at [.ref 33, .int (nI h), .int (nI p)] [] (zs_roomOf33 (show h < 24 by omega) (show p < 8 by omega) (hs1.2.2.2 p (h) lp (by omega)).1) rfl rfl ?_
            rintro _ _ ⟨rfl, rfl⟩
            exact zq_retn zt_X8_at rfl rfl (⟨rfl, hC1, f1.wk (by simp +contextual [zSC])⟩)
          · rw [zn_le (by omega) (by omega)] at h64
            rw [if_neg h64]
            refine zq_go zt_X8_at 2 [] 64 [(0, .ref 0), (1, .int (nI h)), (2, .int (nI p)), (3, .int (nI w)), (4, .int (nI h))] [.int (-1)] μ0 rfl trivial ?_
            exact zq_retn zt_X8_at rfl rfl (⟨rfl, hC, zq_fr.rf⟩)
      · rw [show vAt τ v1 v2 v3 = -2 from if_neg (fun q => zb_0.mp (Classical.not_not.mp h23) q.2.2)]
        refine zq_go zt_X8_at 1 [] 26 [(0, .ref 0), (1, .int v1), (2, .int v2), (3, .int v3)] [.int (-2)] μ0 rfl trivial ?_
        exact zq_retn zt_X8_at rfl rfl (⟨rfl, hC, zq_fr.rf⟩)
set_option maxRecDepth 100000 in
set_option maxHeartbeats 400000 in
theorem zs_atOf {τ : zTd} {S : zES} {H : zSH} {μ0 : zq_Me} {h p w : Nat} (lh : h ≤ 23) (lp : p < ynp τ) (lw : w ≤ 1) (hM : zIm τ S H μ0) : zq_Wp zn_X9_atOf 0 [(0, .ref 50), (1, .int (nI h)), (2, .int (nI p)), (3, .int (nI w))] [] μ0 (zRm' (.int (yAt τ h p w)) τ S H μ0) := by
  refine zq_go zt_X9_atOf 1 [] 1 [(0, .ref 50), (1, .int (nI h)), (2, .int (nI p)), (3, .int (nI w))] [.ref 50] μ0 rfl trivial ?_
  refine zq_call zt_X9_atOf [.ref 50] [] (zs_runsTold hM) rfl rfl ?_
  rintro _ ν1 ⟨rfl, n1, k1, o1, r1, q1⟩
  have hl9 := n1.2.1.2.2
  have hnp := q1.1
  refine zq_go zt_X9_atOf 2 [] (if ¬ (nI w) = 0 then 12 else 8) [(0, .ref 50), (1, .int (nI h)), (2, .int (nI p)), (3, .int (nI w))] [] ν1 rfl trivial ?_
  refine zq_ite (fun h6 => ?_) (fun h6 => ?_)
  · have h7 : ¬ w = 0 := by
      rw [show (0 : Int32) = nI 0 from rfl, zn_eq (by omega) (by omega)] at h6
      exact h6
    have e0 : yAt τ h p w = if h + yld τ ≤ 23 then nI (yRt τ 0 p (h + yld τ)) else -1 := by unfold yAt; rw [if_neg h7]
    rw [e0]
    refine zq_go zt_X9_atOf 8 [] (if ((nI h) + (ν1.1 50 14)) ≤ (nI 23) then 31 else 27) [(0, .ref 50), (1, .int (nI h)), (2, .int (nI p)), (3, .int (nI w)), (4, .int ((nI h) + (ν1.1 50 14)))] [] ν1 rfl trivial ?_
    rw [o1.2.2.1, zn_add h (yld τ)]
    refine zq_ite (fun h14 => ?_) (fun h14 => ?_)
    · rw [zn_le (by omega) (by omega)] at h14
      rw [if_pos h14]
      have hr9 := (q1.2.2 p (h + yld τ) lp (by omega)).1
      refine zq_go zt_X9_atOf 8 [vp_in (((nI 8) * (nI (h + (yld τ)))) + (nI p)) 192] 43 [(0, .ref 50), (1, .int (nI h)), (2, .int (nI p)), (3, .int (nI w)), (4, .int (nI (h + (yld τ))))] [.int (ν1.1 66 ((((nI 8) * (nI (h + (yld τ)))) + (nI p)).toNatClampNeg))] ν1 rfl ⟨zn_in (k := (8 * (h + (yld τ))) + p) (by rw [zn_mul 8 (h + (yld τ)), zn_add (8 * (h + (yld τ))) p]) (by omega) (by decide), trivial⟩ ?_
      rw [zn_mul 8 (h + (yld τ)), zn_add (8 * (h + (yld τ))) p, zn_cl (n := (8 * (h + (yld τ))) + p) (by omega), hr9]
      exact zq_retn zt_X9_atOf rfl rfl (⟨rfl, n1, k1⟩)
    · rw [zn_le (by omega) (by omega)] at h14
      rw [if_neg h14]
      refine zq_go zt_X9_atOf 2 [] 43 [(0, .ref 50), (1, .int (nI h)), (2, .int (nI p)), (3, .int (nI w)), (4, .int (nI (h + (yld τ))))] [.int (-1)] ν1 rfl trivial ?_
      exact zq_retn zt_X9_atOf rfl rfl (⟨rfl, n1, k1⟩)
  · have h7 : w = 0 := by
      rw [show (0 : Int32) = nI 0 from rfl, zn_eq (by omega) (by omega)] at h6
      omega
    have e0 : yAt τ h p w = if h ≤ 23 then nI (yRt τ 0 p (h)) else -1 := by unfold yAt; rw [if_pos h7]
    rw [e0]
    refine zq_go zt_X9_atOf 2 [] 18 [(0, .ref 50), (1, .int (nI h)), (2, .int (nI p)), (3, .int (nI w))] [.int (nI h)] ν1 rfl trivial ?_
    refine zq_go zt_X9_atOf 4 [] (if (nI h) ≤ (nI 23) then 31 else 27) [(0, .ref 50), (1, .int (nI h)), (2, .int (nI p)), (3, .int (nI w)), (4, .int (nI h))] [] ν1 rfl trivial ?_
    refine zq_ite (fun h32 => ?_) (fun h32 => ?_)
    · rw [zn_le (by omega) (by omega)] at h32
      rw [if_pos h32]
      have hr9 := (q1.2.2 p (h) lp (by omega)).1
      refine zq_go zt_X9_atOf 8 [vp_in (((nI 8) * (nI h)) + (nI p)) 192] 43 [(0, .ref 50), (1, .int (nI h)), (2, .int (nI p)), (3, .int (nI w)), (4, .int (nI h))] [.int (ν1.1 66 ((((nI 8) * (nI h)) + (nI p)).toNatClampNeg))] ν1 rfl ⟨zn_in (k := (8 * h) + p) (by rw [zn_mul 8 h, zn_add (8 * h) p]) (by omega) (by decide), trivial⟩ ?_
      rw [zn_mul 8 h, zn_add (8 * h) p, zn_cl (n := (8 * h) + p) (by omega), hr9]
      exact zq_retn zt_X9_atOf rfl rfl (⟨rfl, n1, k1⟩)
    · rw [zn_le (by omega) (by omega)] at h32
      rw [if_neg h32]
      refine zq_go zt_X9_atOf 2 [] 43 [(0, .ref 50), (1, .int (nI h)), (2, .int (nI p)), (3, .int (nI w)), (4, .int (nI h))] [.int (-1)] ν1 rfl trivial ?_
      exact zq_retn zt_X9_atOf rfl rfl (⟨rfl, n1, k1⟩)
set_option maxRecDepth 100000 in
set_option maxHeartbeats 400000 in
theorem zs_atm {τ : zTd} {S : zES} {H : zSH} {μ0 : zq_Me} (v1 v2 v3 : Int32) (hM : zIm τ S H μ0) : zq_Wp zn_X9_at 0 [(0, .ref 50), (1, .int v1), (2, .int v2), (3, .int v3)] [] μ0 (zRm' (.int (vAt τ v1 v2 v3)) τ S H μ0) := by
  refine zq_go zt_X9_at 1 [] 1 [(0, .ref 50), (1, .int v1), (2, .int v2), (3, .int v3)] [.int v1] μ0 rfl trivial ?_
  refine zq_call zt_X9_at [.int v1] [] (zs_isHourm v1 μ0) rfl rfl ?_
  rintro _ _ ⟨rfl, rfl⟩
  refine zq_go zt_X9_at 1 [] (if (zb (0 ≤ v1 ∧ v1 ≤ nI 23)) = 0 then 32 else 7) [(0, .ref 50), (1, .int v1), (2, .int v2), (3, .int v3)] [] μ0 rfl trivial ?_
  refine zq_ite (fun h4 => ?_) (fun h4 => ?_)
  · rw [show vAt τ v1 v2 v3 = -2 from if_neg (fun q => zb_0.mp h4 q.1)]
    refine zq_go zt_X9_at 1 [] 34 [(0, .ref 50), (1, .int v1), (2, .int v2), (3, .int v3)] [.int (-2)] μ0 rfl trivial ?_
    exact zq_retn zt_X9_at rfl rfl (⟨rfl, hM, zq_fr.rf⟩)
  · have g0 := zb_p h4
    refine zq_go zt_X9_at 2 [] 9 [(0, .ref 50), (1, .int v1), (2, .int v2), (3, .int v3)] [.int v2, .ref 50] μ0 rfl trivial ?_
    refine zq_call zt_X9_at [.ref 50, .int v2] [] (zs_isPersonm v2 hM) rfl rfl ?_
    rintro _ μ10 ⟨rfl, m10, f10, d10, p10⟩
    refine zq_go zt_X9_at 1 [] (if (zb (0 ≤ v2 ∧ v2 ≤ nI (ynp τ) - nI 1)) = 0 then 32 else 15) [(0, .ref 50), (1, .int v1), (2, .int v2), (3, .int v3)] [] μ10 rfl trivial ?_
    refine zq_ite (fun h13 => ?_) (fun h13 => ?_)
    · rw [show vAt τ v1 v2 v3 = -2 from if_neg (fun q => zb_0.mp h13 q.2.1)]
      refine zq_go zt_X9_at 1 [] 34 [(0, .ref 50), (1, .int v1), (2, .int v2), (3, .int v3)] [.int (-2)] μ10 rfl trivial ?_
      exact zq_retn zt_X9_at rfl rfl (⟨rfl, m10, f10⟩)
    · have g1 := zb_p h13
      refine zq_go zt_X9_at 1 [] 16 [(0, .ref 50), (1, .int v1), (2, .int v2), (3, .int v3)] [.int v3] μ10 rfl trivial ?_
      refine zq_call zt_X9_at [.int v3] [] (zs_isTwom v3 μ10) rfl rfl ?_
      rintro _ _ ⟨rfl, rfl⟩
      refine zq_go zt_X9_at 1 [] (if (zb (0 ≤ v3 ∧ v3 ≤ nI 1)) = 0 then 32 else 22) [(0, .ref 50), (1, .int v1), (2, .int v2), (3, .int v3)] [] μ10 rfl trivial ?_
      refine zq_ite (fun h22 => ?_) (fun h22 => ?_)
      · rw [show vAt τ v1 v2 v3 = -2 from if_neg (fun q => zb_0.mp h22 q.2.2)]
        refine zq_go zt_X9_at 1 [] 34 [(0, .ref 50), (1, .int v1), (2, .int v2), (3, .int v3)] [.int (-2)] μ10 rfl trivial ?_
        exact zq_retn zt_X9_at rfl rfl (⟨rfl, m10, f10⟩)
      · have g2 := zb_p h22
        have hnp := p10.1
        obtain ⟨h, lh, eh⟩ := yix (by decide) g0
        subst eh
        obtain ⟨p, lp, ep⟩ := ypx (by have := hnp; omega) g1
        subst ep
        obtain ⟨w, lw, ew⟩ := yix (by decide) g2
        subst ew
        rw [vAt_eq lh lp lw hnp]
        refine zq_go zt_X9_at 4 [] 26 [(0, .ref 50), (1, .int (nI h)), (2, .int (nI p)), (3, .int (nI w))] [.int (nI w), .int (nI p), .int (nI h), .ref 50] μ10 rfl trivial ?_
        refine zq_call zt_X9_at [.ref 50, .int (nI h), .int (nI p), .int (nI w)] [] (zs_atOf lh lp lw m10) rfl rfl ?_
        rintro _ ν1 ⟨rfl, n1, k1⟩
        refine zq_go zt_X9_at 1 [] 34 [(0, .ref 50), (1, .int (nI h)), (2, .int (nI p)), (3, .int (nI w))] [.int (yAt τ h p w)] ν1 rfl trivial ?_
        exact zq_retn zt_X9_at rfl rfl (⟨rfl, n1, f10.tr k1⟩)
set_option maxRecDepth 100000 in
set_option maxHeartbeats 400000 in
theorem zs_room {τ : zTd} {S : zES} {H : zSH} {μ0 : zq_Me} (v1 v2 : Int32) (hC : zIc τ S H μ0) : zq_Wp zn_X8_room 0 [(0, .ref 0), (1, .int v1), (2, .int v2)] [] μ0 (zRc (.int (vRoom τ v1 v2)) τ S H μ0) := by
  refine zq_go zt_X8_room 1 [] 1 [(0, .ref 0), (1, .int v1), (2, .int v2)] [.int v1] μ0 rfl trivial ?_
  refine zq_call zt_X8_room [.int v1] [] (zs_isHour v1 μ0) rfl rfl ?_
  rintro _ _ ⟨rfl, rfl⟩
  refine zq_go zt_X8_room 1 [] (if (zb (0 ≤ v1 ∧ v1 ≤ nI 23)) = 0 then 14 else 7) [(0, .ref 0), (1, .int v1), (2, .int v2)] [] μ0 rfl trivial ?_
  refine zq_ite (fun h4 => ?_) (fun h4 => ?_)
  · rw [show vRoom τ v1 v2 = -2 from if_neg (fun q => zb_0.mp h4 q.1)]
    refine zq_go zt_X8_room 1 [] 16 [(0, .ref 0), (1, .int v1), (2, .int v2)] [.int (-2)] μ0 rfl trivial ?_
    exact zq_retn zt_X8_room rfl rfl (⟨rfl, hC, zq_fr.rf⟩)
  · have g0 := zb_p h4
    refine zq_go zt_X8_room 1 [] 8 [(0, .ref 0), (1, .int v1), (2, .int v2)] [.int v2] μ0 rfl trivial ?_
    refine zq_call zt_X8_room [.int v2] [] (zs_isRoom v2 μ0) rfl rfl ?_
    rintro _ _ ⟨rfl, rfl⟩
    refine zq_go zt_X8_room 1 [] (if ¬ (zb (0 ≤ v2 ∧ v2 ≤ nI 7)) = 0 then 17 else 14) [(0, .ref 0), (1, .int v1), (2, .int v2)] [] μ0 rfl trivial ?_
    refine zq_ite (fun h13 => ?_) (fun h13 => ?_)
    · have g1 := zb_p h13
      obtain ⟨h, lh, eh⟩ := yix (by decide) g0
      subst eh
      obtain ⟨x, lx, ex⟩ := yix (by decide) g1
      subst ex
      rw [vRoom_eq lh lx]
      refine zq_go zt_X8_room 1 [] 18 [(0, .ref 0), (1, .int (nI h)), (2, .int (nI x))] [.ref 0] μ0 rfl trivial ?_
      refine zq_call zt_X8_room [.ref 0] [] (zs_weekAsTold hC) rfl rfl ?_
      rintro _ μ1 ⟨rfl, hC1, f1, hs1⟩
      refine zq_go zt_X8_room 2 [] 23 [(0, .ref 0), (1, .int (nI h)), (2, .int (nI x))] [.int (nI x), .int (nI h), .ref 33] μ1 rfl trivial ?_
      refine zq_call zt_X8_room [.ref 33, .int (nI h), .int (nI x)] [] (zs_whoIn33 hs1.2 (show h < 24 by omega) (show x < 2 ^ 31 by omega)) rfl rfl ?_
      rintro _ _ ⟨rfl, rfl⟩
      exact zq_retn zt_X8_room rfl rfl (⟨rfl, hC1, f1.wk (by simp +contextual [zSC])⟩)
    · rw [show vRoom τ v1 v2 = -2 from if_neg (fun q => zb_0.mp (Classical.not_not.mp h13) q.2)]
      refine zq_go zt_X8_room 1 [] 16 [(0, .ref 0), (1, .int v1), (2, .int v2)] [.int (-2)] μ0 rfl trivial ?_
      exact zq_retn zt_X8_room rfl rfl (⟨rfl, hC, zq_fr.rf⟩)
set_option maxRecDepth 100000 in
set_option maxHeartbeats 400000 in
theorem zs_far {τ : zTd} {S : zES} {H : zSH} {μ0 : zq_Me} (v1 v2 v3 : Int32) (hC : zIc τ S H μ0) : zq_Wp zn_X8_far 0 [(0, .ref 0), (1, .int v1), (2, .int v2), (3, .int v3)] [] μ0 (zRc (.int (vFar τ v1 v2 v3)) τ S H μ0) := by
  refine zq_go zt_X8_far 1 [] 1 [(0, .ref 0), (1, .int v1), (2, .int v2), (3, .int v3)] [.int v1] μ0 rfl trivial ?_
  refine zq_call zt_X8_far [.int v1] [] (zs_isHour v1 μ0) rfl rfl ?_
  rintro _ _ ⟨rfl, rfl⟩
  refine zq_go zt_X8_far 1 [] (if (zb (0 ≤ v1 ∧ v1 ≤ nI 23)) = 0 then 21 else 7) [(0, .ref 0), (1, .int v1), (2, .int v2), (3, .int v3)] [] μ0 rfl trivial ?_
  refine zq_ite (fun h4 => ?_) (fun h4 => ?_)
  · rw [show vFar τ v1 v2 v3 = -2 from if_neg (fun q => zb_0.mp h4 q.1)]
    refine zq_go zt_X8_far 1 [] 23 [(0, .ref 0), (1, .int v1), (2, .int v2), (3, .int v3)] [.int (-2)] μ0 rfl trivial ?_
    exact zq_retn zt_X8_far rfl rfl (⟨rfl, hC, zq_fr.rf⟩)
  · have g0 := zb_p h4
    refine zq_go zt_X8_far 1 [] 8 [(0, .ref 0), (1, .int v1), (2, .int v2), (3, .int v3)] [.int v2] μ0 rfl trivial ?_
    refine zq_call zt_X8_far [.int v2] [] (zs_isRoom v2 μ0) rfl rfl ?_
    rintro _ _ ⟨rfl, rfl⟩
    refine zq_go zt_X8_far 1 [] (if (zb (0 ≤ v2 ∧ v2 ≤ nI 7)) = 0 then 21 else 14) [(0, .ref 0), (1, .int v1), (2, .int v2), (3, .int v3)] [] μ0 rfl trivial ?_
    refine zq_ite (fun h13 => ?_) (fun h13 => ?_)
    · rw [show vFar τ v1 v2 v3 = -2 from if_neg (fun q => zb_0.mp h13 q.2.1)]
      refine zq_go zt_X8_far 1 [] 23 [(0, .ref 0), (1, .int v1), (2, .int v2), (3, .int v3)] [.int (-2)] μ0 rfl trivial ?_
      exact zq_retn zt_X8_far rfl rfl (⟨rfl, hC, zq_fr.rf⟩)
    · have g1 := zb_p h13
      refine zq_go zt_X8_far 1 [] 15 [(0, .ref 0), (1, .int v1), (2, .int v2), (3, .int v3)] [.int v3] μ0 rfl trivial ?_
      refine zq_call zt_X8_far [.int v3] [] (zs_isRoom v3 μ0) rfl rfl ?_
      rintro _ _ ⟨rfl, rfl⟩
      refine zq_go zt_X8_far 1 [] (if ¬ (zb (0 ≤ v3 ∧ v3 ≤ nI 7)) = 0 then 24 else 21) [(0, .ref 0), (1, .int v1), (2, .int v2), (3, .int v3)] [] μ0 rfl trivial ?_
      refine zq_ite (fun h22 => ?_) (fun h22 => ?_)
      · have g2 := zb_p h22
        obtain ⟨h, lh, eh⟩ := yix (by decide) g0
        subst eh
        obtain ⟨x, lx, ex⟩ := yix (by decide) g1
        subst ex
        obtain ⟨t, lt, et⟩ := yix (by decide) g2
        subst et
        rw [vFar_eq lh lx lt]
        refine zq_go zt_X8_far 1 [] 25 [(0, .ref 0), (1, .int (nI h)), (2, .int (nI x)), (3, .int (nI t))] [.ref 0] μ0 rfl trivial ?_
        refine zq_call zt_X8_far [.ref 0] [] (zs_weekAsTold hC) rfl rfl ?_
        rintro _ μ1 ⟨rfl, hC1, f1, hs1⟩
        refine zq_go zt_X8_far 3 [] 31 [(0, .ref 0), (1, .int (nI h)), (2, .int (nI x)), (3, .int (nI t))] [.int (nI t), .int (nI x), .int (nI h), .ref 33] μ1 rfl trivial ?_
        refine zq_call zt_X8_far [.ref 33, .int (nI h), .int (nI x), .int (nI t)] [] (zs_doors33 hs1.1 (show h < 24 by omega) (show t < 8 by omega) (show x < 8 by omega)) rfl rfl ?_
        rintro _ _ ⟨rfl, rfl⟩
        exact zq_retn zt_X8_far rfl rfl (⟨rfl, hC1, f1.wk (by simp +contextual [zSC])⟩)
      · rw [show vFar τ v1 v2 v3 = -2 from if_neg (fun q => zb_0.mp (Classical.not_not.mp h22) q.2.2)]
        refine zq_go zt_X8_far 1 [] 23 [(0, .ref 0), (1, .int v1), (2, .int v2), (3, .int v3)] [.int (-2)] μ0 rfl trivial ?_
        exact zq_retn zt_X8_far rfl rfl (⟨rfl, hC, zq_fr.rf⟩)
set_option maxRecDepth 100000 in
set_option maxHeartbeats 400000 in
theorem zs_empty {τ : zTd} {S : zES} {H : zSH} {μ0 : zq_Me} (v1 : Int32) (hC : zIc τ S H μ0) : zq_Wp zn_X8_empty 0 [(0, .ref 0), (1, .int v1)] [] μ0 (zRc (.int (vEmpty τ v1)) τ S H μ0) := by
  refine zq_go zt_X8_empty 1 [] 1 [(0, .ref 0), (1, .int v1)] [.int v1] μ0 rfl trivial ?_
  refine zq_call zt_X8_empty [.int v1] [] (zs_isRoom v1 μ0) rfl rfl ?_
  rintro _ _ ⟨rfl, rfl⟩
  refine zq_go zt_X8_empty 1 [] (if (zb (0 ≤ v1 ∧ v1 ≤ nI 7)) = 0 then 18 else 7) [(0, .ref 0), (1, .int v1)] [] μ0 rfl trivial ?_
  refine zq_ite (fun h4 => ?_) (fun h4 => ?_)
  · rw [show vEmpty τ v1 = -2 from if_neg (fun q => zb_0.mp h4 q)]
    refine zq_go zt_X8_empty 1 [] 20 [(0, .ref 0), (1, .int v1)] [.int (-2)] μ0 rfl trivial ?_
    exact zq_retn zt_X8_empty rfl rfl (⟨rfl, hC, zq_fr.rf⟩)
  · have g0 := zb_p h4
    obtain ⟨x, lx, ex⟩ := yix (by decide) g0
    subst ex
    rw [vEmpty_eq lx]
    refine zq_go zt_X8_empty 1 [] 8 [(0, .ref 0), (1, .int (nI x))] [.ref 0] μ0 rfl trivial ?_
    refine zq_call zt_X8_empty [.ref 0] [] (zs_weekAsTold hC) rfl rfl ?_
    rintro _ μ1 ⟨rfl, hC1, f1, hs1⟩
    refine zq_go zt_X8_empty 1 [] 12 [(0, .ref 0), (1, .int (nI x))] [.int (nI x), .ref 33] μ1 rfl trivial ?_
    refine zq_call zt_X8_empty [.ref 33, .int (nI x)] [] (zs_emptyHours33 hs1.2 (show x < 2 ^ 31 by omega)) rfl rfl ?_
    rintro _ _ ⟨rfl, rfl⟩
    refine zq_go zt_X8_empty 1 [] 20 [(0, .ref 0), (1, .int (nI x))] [.int (nI (zemp (ynp τ) (yRt τ 0) x))] μ1 rfl trivial ?_
    exact zq_retn zt_X8_empty rfl rfl (⟨rfl, hC1, f1.wk (by simp +contextual [zSC])⟩)
set_option maxRecDepth 100000 in
set_option maxHeartbeats 400000 in
theorem zs_roomOfm {τ : zTd} {S : zES} {H : zSH} {μ0 : zq_Me} {h x : Nat} (lh : h ≤ 23) (lx : x ≤ 7) (hM : zIm τ S H μ0) : zq_Wp zn_X9_roomOf 0 [(0, .ref 50), (1, .int (nI h)), (2, .int (nI x))] [] μ0 (zRm' (.int (nI (zwho (ynp τ) (yRt τ 0) h x))) τ S H μ0) := by
  refine zq_go zt_X9_roomOf 1 [] 1 [(0, .ref 50), (1, .int (nI h)), (2, .int (nI x))] [.ref 50] μ0 rfl trivial ?_
  refine zq_call zt_X9_roomOf [.ref 50] [] (zs_runsTold hM) rfl rfl ?_
  rintro _ ν1 ⟨rfl, n1, k1, o1, r1, q1⟩
  refine zq_go zt_X9_roomOf 3 [] 7 [(0, .ref 50), (1, .int (nI h)), (2, .int (nI x))] [.int (nI x), .int (nI h), .ref 50] ν1 rfl trivial ?_
  refine zq_call zt_X9_roomOf [.ref 50, .int (nI h), .int (nI x)] [] (zs_inRoom q1 (show h < 24 by omega) (show x < 2 ^ 31 by omega)) rfl rfl ?_
  rintro _ _ ⟨rfl, rfl⟩
  exact zq_retn zt_X9_roomOf rfl rfl (⟨rfl, n1, k1⟩)
set_option maxRecDepth 100000 in
set_option maxHeartbeats 400000 in
theorem zs_emptyOf {τ : zTd} {S : zES} {H : zSH} {μ0 : zq_Me} {x : Nat} (lx : x ≤ 7) (hM : zIm τ S H μ0) : zq_Wp zn_X9_emptyOf 0 [(0, .ref 50), (1, .int (nI x))] [] μ0 (zRm' (.int (nI (zemp (ynp τ) (yRt τ 0) x))) τ S H μ0) := by
  refine zq_go zt_X9_emptyOf 1 [] 1 [(0, .ref 50), (1, .int (nI x))] [.ref 50] μ0 rfl trivial ?_
  refine zq_call zt_X9_emptyOf [.ref 50] [] (zs_runsTold hM) rfl rfl ?_
  rintro _ ν1 ⟨rfl, n1, k1, o1, r1, q1⟩
  refine zq_go zt_X9_emptyOf 2 [] 6 [(0, .ref 50), (1, .int (nI x))] [.int (nI x), .ref 50] ν1 rfl trivial ?_
  refine zq_call zt_X9_emptyOf [.ref 50, .int (nI x)] [] (zs_emptyNow q1 (show x < 2 ^ 31 by omega)) rfl rfl ?_
  rintro _ _ ⟨rfl, rfl⟩
  exact zq_retn zt_X9_emptyOf rfl rfl (⟨rfl, n1, k1⟩)
set_option maxRecDepth 100000 in
set_option maxHeartbeats 400000 in
theorem zs_foundOf {τ : zTd} {S : zES} {H : zSH} {μ0 : zq_Me} (v : Int32) (hM : zIm τ S H μ0) : zq_Wp zn_X9_foundOf 0 [(0, .ref 50), (1, .int v)] [] μ0 (zRm' (.int (zfv (ysr τ) (ynp τ) (yRt τ 0) v)) τ S H μ0) := by
  refine zq_go zt_X9_foundOf 1 [] 1 [(0, .ref 50), (1, .int v)] [.ref 50] μ0 rfl trivial ?_
  refine zq_call zt_X9_foundOf [.ref 50] [] (zs_runsTold hM) rfl rfl ?_
  rintro _ ν1 ⟨rfl, n1, k1, o1, r1, q1⟩
  refine zq_go zt_X9_foundOf 2 [] 6 [(0, .ref 50), (1, .int v)] [.int v, .ref 50] ν1 rfl trivial ?_
  refine zq_call zt_X9_foundOf [.ref 50, .int v] [] (zs_foundNow o1.2.1 q1 v) rfl rfl ?_
  rintro _ _ ⟨rfl, rfl⟩
  exact zq_retn zt_X9_foundOf rfl rfl (⟨rfl, n1, k1⟩)
set_option maxRecDepth 100000 in
set_option maxHeartbeats 400000 in
theorem zs_aloneOf {τ : zTd} {S : zES} {H : zSH} {μ0 : zq_Me} (hM : zIm τ S H μ0) : zq_Wp zn_X9_aloneOf 0 [(0, .ref 50)] [] μ0 (zRm' (.int (nI (zal (ynp τ) (yRt τ 0) 23))) τ S H μ0) := by
  refine zq_go zt_X9_aloneOf 1 [] 1 [(0, .ref 50)] [.ref 50] μ0 rfl trivial ?_
  refine zq_call zt_X9_aloneOf [.ref 50] [] (zs_runsTold hM) rfl rfl ?_
  rintro _ ν1 ⟨rfl, n1, k1, o1, r1, q1⟩
  refine zq_go zt_X9_aloneOf 1 [] 5 [(0, .ref 50)] [.ref 50] ν1 rfl trivial ?_
  refine zq_call zt_X9_aloneOf [.ref 50] [] (zs_aloneNow q1) rfl rfl ?_
  rintro _ _ ⟨rfl, rfl⟩
  exact zq_retn zt_X9_aloneOf rfl rfl (⟨rfl, n1, k1⟩)
set_option maxRecDepth 100000 in
set_option maxHeartbeats 400000 in
theorem zs_farOf {τ : zTd} {S : zES} {H : zSH} {μ0 : zq_Me} {h x t : Nat} (lh : h ≤ 23) (lx : x ≤ 7) (lt : t ≤ 7) (hM : zIm τ S H μ0) : zq_Wp zn_X9_farOf 0 [(0, .ref 50), (1, .int (nI h)), (2, .int (nI x)), (3, .int (nI t))] [] μ0 (zRm' (.int (yFar τ h x t)) τ S H μ0) := by
  refine zq_go zt_X9_farOf 1 [] 1 [(0, .ref 50), (1, .int (nI h)), (2, .int (nI x)), (3, .int (nI t))] [.ref 50] μ0 rfl trivial ?_
  refine zq_call zt_X9_farOf [.ref 50] [] (zs_runsTold hM) rfl rfl ?_
  rintro _ ν1 ⟨rfl, n1, k1, o1, r1, q1⟩
  have hr9 := r1.2 h (by omega) x t (by omega) (by omega)
  have hd9 := zfD_lt (zg_d (zg_adj (yo1 τ) (yo2 τ) (zSh (yek τ) (yeh τ) (yen τ) 0 (yne τ) h) (ynd τ)) t x)
  refine zq_go zt_X9_farOf 16 [vp_in ((((nI 64) * (nI h)) + ((nI 8) * (nI x))) + (nI t)) 1536] (if (nI 99) ≤ (ν1.1 65 (((((nI 64) * (nI h)) + ((nI 8) * (nI x))) + (nI t)).toNatClampNeg)) then 34 else 29) [(0, .ref 50), (1, .int (nI h)), (2, .int (nI x)), (3, .int (nI t)), (4, .int (ν1.1 65 (((((nI 64) * (nI h)) + ((nI 8) * (nI x))) + (nI t)).toNatClampNeg)))] [] ν1 rfl ⟨zn_in (k := ((64 * h) + (8 * x)) + t) (by rw [zn_mul 64 h, zn_mul 8 x, zn_add (64 * h) (8 * x), zn_add ((64 * h) + (8 * x)) t]) (by omega) (by decide), trivial⟩ ?_
  rw [zn_mul 64 h, zn_mul 8 x, zn_add (64 * h) (8 * x), zn_add ((64 * h) + (8 * x)) t, zn_cl (n := ((64 * h) + (8 * x)) + t) (by omega), hr9]
  have e0 : yFar τ h x t = if zg_d (zg_adj (yo1 τ) (yo2 τ) (zSh (yek τ) (yeh τ) (yen τ) 0 (yne τ) h) (ynd τ)) t x < 8 then nI (zg_d (zg_adj (yo1 τ) (yo2 τ) (zSh (yek τ) (yeh τ) (yen τ) 0 (yne τ) h) (ynd τ)) t x) else -1 := rfl
  refine zq_ite (fun h8 => ?_) (fun h8 => ?_)
  · rw [zn_le (by omega) (by omega)] at h8
    unfold zfD at h8
    rw [e0, if_neg (fun q => by rw [if_pos q] at h8; omega)]
    refine zq_go zt_X9_farOf 1 [] 35 [(0, .ref 50), (1, .int (nI h)), (2, .int (nI x)), (3, .int (nI t)), (4, .int (nI (zfD (zg_d (zg_adj (yo1 τ) (yo2 τ) (zSh (yek τ) (yeh τ) (yen τ) 0 (yne τ) h) (ynd τ)) t x))))] [.int (-1)] ν1 rfl trivial ?_
    exact zq_retn zt_X9_farOf rfl rfl (⟨rfl, n1, k1⟩)
  · rw [zn_le (by omega) (by omega)] at h8
    have h8 : zg_d (zg_adj (yo1 τ) (yo2 τ) (zSh (yek τ) (yeh τ) (yen τ) 0 (yne τ) h) (ynd τ)) t x < 8 := by
      unfold zfD at h8
      split at h8 <;> omega
    rw [e0, if_pos h8]
    refine zq_go zt_X9_farOf 2 [] 35 [(0, .ref 50), (1, .int (nI h)), (2, .int (nI x)), (3, .int (nI t)), (4, .int (nI (zfD (zg_d (zg_adj (yo1 τ) (yo2 τ) (zSh (yek τ) (yeh τ) (yen τ) 0 (yne τ) h) (ynd τ)) t x))))] [.int (nI (zfD (zg_d (zg_adj (yo1 τ) (yo2 τ) (zSh (yek τ) (yeh τ) (yen τ) 0 (yne τ) h) (ynd τ)) t x)))] ν1 rfl trivial ?_
    rw [show zfD (zg_d (zg_adj (yo1 τ) (yo2 τ) (zSh (yek τ) (yeh τ) (yen τ) 0 (yne τ) h) (ynd τ)) t x) = zg_d (zg_adj (yo1 τ) (yo2 τ) (zSh (yek τ) (yeh τ) (yen τ) 0 (yne τ) h) (ynd τ)) t x from if_pos h8]
    exact zq_retn zt_X9_farOf rfl rfl (⟨rfl, n1, k1⟩)
set_option maxRecDepth 100000 in
set_option maxHeartbeats 400000 in
theorem zs_roomm {τ : zTd} {S : zES} {H : zSH} {μ0 : zq_Me} (v1 v2 : Int32) (hM : zIm τ S H μ0) : zq_Wp zn_X9_room 0 [(0, .ref 50), (1, .int v1), (2, .int v2)] [] μ0 (zRm' (.int (vRoom τ v1 v2)) τ S H μ0) := by
  refine zq_go zt_X9_room 1 [] 1 [(0, .ref 50), (1, .int v1), (2, .int v2)] [.int v1] μ0 rfl trivial ?_
  refine zq_call zt_X9_room [.int v1] [] (zs_isHourm v1 μ0) rfl rfl ?_
  rintro _ _ ⟨rfl, rfl⟩
  refine zq_go zt_X9_room 1 [] (if (zb (0 ≤ v1 ∧ v1 ≤ nI 23)) = 0 then 23 else 7) [(0, .ref 50), (1, .int v1), (2, .int v2)] [] μ0 rfl trivial ?_
  refine zq_ite (fun h4 => ?_) (fun h4 => ?_)
  · rw [show vRoom τ v1 v2 = -2 from if_neg (fun q => zb_0.mp h4 q.1)]
    refine zq_go zt_X9_room 1 [] 25 [(0, .ref 50), (1, .int v1), (2, .int v2)] [.int (-2)] μ0 rfl trivial ?_
    exact zq_retn zt_X9_room rfl rfl (⟨rfl, hM, zq_fr.rf⟩)
  · have g0 := zb_p h4
    refine zq_go zt_X9_room 1 [] 8 [(0, .ref 50), (1, .int v1), (2, .int v2)] [.int v2] μ0 rfl trivial ?_
    refine zq_call zt_X9_room [.int v2] [] (zs_isEightm v2 μ0) rfl rfl ?_
    rintro _ _ ⟨rfl, rfl⟩
    refine zq_go zt_X9_room 1 [] (if (zb (0 ≤ v2 ∧ v2 ≤ nI 7)) = 0 then 23 else 14) [(0, .ref 50), (1, .int v1), (2, .int v2)] [] μ0 rfl trivial ?_
    refine zq_ite (fun h13 => ?_) (fun h13 => ?_)
    · rw [show vRoom τ v1 v2 = -2 from if_neg (fun q => zb_0.mp h13 q.2)]
      refine zq_go zt_X9_room 1 [] 25 [(0, .ref 50), (1, .int v1), (2, .int v2)] [.int (-2)] μ0 rfl trivial ?_
      exact zq_retn zt_X9_room rfl rfl (⟨rfl, hM, zq_fr.rf⟩)
    · have g1 := zb_p h13
      obtain ⟨h, lh, eh⟩ := yix (by decide) g0
      subst eh
      obtain ⟨x, lx, ex⟩ := yix (by decide) g1
      subst ex
      rw [vRoom_eq lh lx]
      refine zq_go zt_X9_room 3 [] 17 [(0, .ref 50), (1, .int (nI h)), (2, .int (nI x))] [.int (nI x), .int (nI h), .ref 50] μ0 rfl trivial ?_
      refine zq_call zt_X9_room [.ref 50, .int (nI h), .int (nI x)] [] (zs_roomOfm lh lx hM) rfl rfl ?_
      rintro _ ν1 ⟨rfl, n1, k1⟩
      refine zq_go zt_X9_room 1 [] 25 [(0, .ref 50), (1, .int (nI h)), (2, .int (nI x))] [.int (nI (zwho (ynp τ) (yRt τ 0) h x))] ν1 rfl trivial ?_
      exact zq_retn zt_X9_room rfl rfl (⟨rfl, n1, k1⟩)
set_option maxRecDepth 100000 in
set_option maxHeartbeats 400000 in
theorem zs_farm {τ : zTd} {S : zES} {H : zSH} {μ0 : zq_Me} (v1 v2 v3 : Int32) (hM : zIm τ S H μ0) : zq_Wp zn_X9_far 0 [(0, .ref 50), (1, .int v1), (2, .int v2), (3, .int v3)] [] μ0 (zRm' (.int (vFar τ v1 v2 v3)) τ S H μ0) := by
  refine zq_go zt_X9_far 1 [] 1 [(0, .ref 50), (1, .int v1), (2, .int v2), (3, .int v3)] [.int v1] μ0 rfl trivial ?_
  refine zq_call zt_X9_far [.int v1] [] (zs_isHourm v1 μ0) rfl rfl ?_
  rintro _ _ ⟨rfl, rfl⟩
  refine zq_go zt_X9_far 1 [] (if (zb (0 ≤ v1 ∧ v1 ≤ nI 23)) = 0 then 31 else 7) [(0, .ref 50), (1, .int v1), (2, .int v2), (3, .int v3)] [] μ0 rfl trivial ?_
  refine zq_ite (fun h4 => ?_) (fun h4 => ?_)
  · rw [show vFar τ v1 v2 v3 = -2 from if_neg (fun q => zb_0.mp h4 q.1)]
    refine zq_go zt_X9_far 1 [] 33 [(0, .ref 50), (1, .int v1), (2, .int v2), (3, .int v3)] [.int (-2)] μ0 rfl trivial ?_
    exact zq_retn zt_X9_far rfl rfl (⟨rfl, hM, zq_fr.rf⟩)
  · have g0 := zb_p h4
    refine zq_go zt_X9_far 1 [] 8 [(0, .ref 50), (1, .int v1), (2, .int v2), (3, .int v3)] [.int v2] μ0 rfl trivial ?_
    refine zq_call zt_X9_far [.int v2] [] (zs_isEightm v2 μ0) rfl rfl ?_
    rintro _ _ ⟨rfl, rfl⟩
    refine zq_go zt_X9_far 1 [] (if (zb (0 ≤ v2 ∧ v2 ≤ nI 7)) = 0 then 31 else 14) [(0, .ref 50), (1, .int v1), (2, .int v2), (3, .int v3)] [] μ0 rfl trivial ?_
    refine zq_ite (fun h13 => ?_) (fun h13 => ?_)
    · rw [show vFar τ v1 v2 v3 = -2 from if_neg (fun q => zb_0.mp h13 q.2.1)]
      refine zq_go zt_X9_far 1 [] 33 [(0, .ref 50), (1, .int v1), (2, .int v2), (3, .int v3)] [.int (-2)] μ0 rfl trivial ?_
      exact zq_retn zt_X9_far rfl rfl (⟨rfl, hM, zq_fr.rf⟩)
    · have g1 := zb_p h13
      refine zq_go zt_X9_far 1 [] 15 [(0, .ref 50), (1, .int v1), (2, .int v2), (3, .int v3)] [.int v3] μ0 rfl trivial ?_
      refine zq_call zt_X9_far [.int v3] [] (zs_isEightm v3 μ0) rfl rfl ?_
      rintro _ _ ⟨rfl, rfl⟩
      refine zq_go zt_X9_far 1 [] (if (zb (0 ≤ v3 ∧ v3 ≤ nI 7)) = 0 then 31 else 21) [(0, .ref 50), (1, .int v1), (2, .int v2), (3, .int v3)] [] μ0 rfl trivial ?_
      refine zq_ite (fun h22 => ?_) (fun h22 => ?_)
      · rw [show vFar τ v1 v2 v3 = -2 from if_neg (fun q => zb_0.mp h22 q.2.2)]
        refine zq_go zt_X9_far 1 [] 33 [(0, .ref 50), (1, .int v1), (2, .int v2), (3, .int v3)] [.int (-2)] μ0 rfl trivial ?_
        exact zq_retn zt_X9_far rfl rfl (⟨rfl, hM, zq_fr.rf⟩)
      · have g2 := zb_p h22
        obtain ⟨h, lh, eh⟩ := yix (by decide) g0
        subst eh
        obtain ⟨x, lx, ex⟩ := yix (by decide) g1
        subst ex
        obtain ⟨t, lt, et⟩ := yix (by decide) g2
        subst et
        rw [vFar_eq lh lx lt]
        refine zq_go zt_X9_far 4 [] 25 [(0, .ref 50), (1, .int (nI h)), (2, .int (nI x)), (3, .int (nI t))] [.int (nI t), .int (nI x), .int (nI h), .ref 50] μ0 rfl trivial ?_
        refine zq_call zt_X9_far [.ref 50, .int (nI h), .int (nI x), .int (nI t)] [] (zs_farOf lh lx lt hM) rfl rfl ?_
        rintro _ ν1 ⟨rfl, n1, k1⟩
        refine zq_go zt_X9_far 1 [] 33 [(0, .ref 50), (1, .int (nI h)), (2, .int (nI x)), (3, .int (nI t))] [.int (yFar τ h x t)] ν1 rfl trivial ?_
        exact zq_retn zt_X9_far rfl rfl (⟨rfl, n1, k1⟩)
set_option maxRecDepth 100000 in
set_option maxHeartbeats 400000 in
theorem zs_emptym {τ : zTd} {S : zES} {H : zSH} {μ0 : zq_Me} (v1 : Int32) (hM : zIm τ S H μ0) : zq_Wp zn_X9_empty 0 [(0, .ref 50), (1, .int v1)] [] μ0 (zRm' (.int (vEmpty τ v1)) τ S H μ0) := by
  refine zq_go zt_X9_empty 1 [] 1 [(0, .ref 50), (1, .int v1)] [.int v1] μ0 rfl trivial ?_
  refine zq_call zt_X9_empty [.int v1] [] (zs_isEightm v1 μ0) rfl rfl ?_
  rintro _ _ ⟨rfl, rfl⟩
  refine zq_go zt_X9_empty 1 [] (if (zb (0 ≤ v1 ∧ v1 ≤ nI 7)) = 0 then 15 else 7) [(0, .ref 50), (1, .int v1)] [] μ0 rfl trivial ?_
  refine zq_ite (fun h4 => ?_) (fun h4 => ?_)
  · rw [show vEmpty τ v1 = -2 from if_neg (fun q => zb_0.mp h4 q)]
    refine zq_go zt_X9_empty 1 [] 17 [(0, .ref 50), (1, .int v1)] [.int (-2)] μ0 rfl trivial ?_
    exact zq_retn zt_X9_empty rfl rfl (⟨rfl, hM, zq_fr.rf⟩)
  · have g0 := zb_p h4
    obtain ⟨x, lx, ex⟩ := yix (by decide) g0
    subst ex
    rw [vEmpty_eq lx]
    refine zq_go zt_X9_empty 2 [] 9 [(0, .ref 50), (1, .int (nI x))] [.int (nI x), .ref 50] μ0 rfl trivial ?_
    refine zq_call zt_X9_empty [.ref 50, .int (nI x)] [] (zs_emptyOf lx hM) rfl rfl ?_
    rintro _ ν1 ⟨rfl, n1, k1⟩
    refine zq_go zt_X9_empty 1 [] 17 [(0, .ref 50), (1, .int (nI x))] [.int (nI (zemp (ynp τ) (yRt τ 0) x))] ν1 rfl trivial ?_
    exact zq_retn zt_X9_empty rfl rfl (⟨rfl, n1, k1⟩)
set_option maxRecDepth 100000 in
set_option maxHeartbeats 400000 in
theorem zs_foundm {τ : zTd} {S : zES} {H : zSH} {μ0 : zq_Me} (v1 : Int32) (hM : zIm τ S H μ0) : zq_Wp zn_X9_found 0 [(0, .ref 50), (1, .int v1)] [] μ0 (zRm' (.int (vFound τ v1)) τ S H μ0) := by
  refine zq_go zt_X9_found 1 [] 1 [(0, .ref 50), (1, .int v1)] [.int v1] μ0 rfl trivial ?_
  refine zq_call zt_X9_found [.int v1] [] (zs_isThreem v1 μ0) rfl rfl ?_
  rintro _ _ ⟨rfl, rfl⟩
  refine zq_go zt_X9_found 1 [] (if (zb (0 ≤ v1 ∧ v1 ≤ nI 2)) = 0 then 15 else 7) [(0, .ref 50), (1, .int v1)] [] μ0 rfl trivial ?_
  refine zq_ite (fun h4 => ?_) (fun h4 => ?_)
  · rw [show vFound τ v1 = -2 from if_neg (fun q => zb_0.mp h4 q)]
    refine zq_go zt_X9_found 1 [] 17 [(0, .ref 50), (1, .int v1)] [.int (-2)] μ0 rfl trivial ?_
    exact zq_retn zt_X9_found rfl rfl (⟨rfl, hM, zq_fr.rf⟩)
  · have g0 := zb_p h4
    obtain ⟨x, lx, ex⟩ := yix (by decide) g0
    subst ex
    rw [vFound_eq lx]
    refine zq_go zt_X9_found 2 [] 9 [(0, .ref 50), (1, .int (nI x))] [.int (nI x), .ref 50] μ0 rfl trivial ?_
    refine zq_call zt_X9_found [.ref 50, .int (nI x)] [] (zs_foundOf (nI x) hM) rfl rfl ?_
    rintro _ ν1 ⟨rfl, n1, k1⟩
    refine zq_go zt_X9_found 1 [] 17 [(0, .ref 50), (1, .int (nI x))] [.int (zfv (ysr τ) (ynp τ) (yRt τ 0) (nI x))] ν1 rfl trivial ?_
    exact zq_retn zt_X9_found rfl rfl (⟨rfl, n1, k1⟩)
set_option maxRecDepth 100000 in
set_option maxHeartbeats 400000 in
theorem zs_alone {τ : zTd} {S : zES} {H : zSH} {μ0 : zq_Me} (hC : zIc τ S H μ0) : zq_Wp zn_X8_alone 0 [(0, .ref 0)] [] μ0 (zRc (.int (nI (zal (ynp τ) (yRt τ 0) 23))) τ S H μ0) := by
  refine zq_go zt_X8_alone 1 [] 1 [(0, .ref 0)] [.ref 0] μ0 rfl trivial ?_
  refine zq_call zt_X8_alone [.ref 0] [] (zs_weekAsTold hC) rfl rfl ?_
  rintro _ μ1 ⟨rfl, hC1, f1, hs1⟩
  refine zq_go zt_X8_alone 1 [] 6 [(0, .ref 0)] [.int (nI 23), .ref 33] μ1 rfl trivial ?_
  refine zq_call zt_X8_alone [.ref 33, .int (nI 23)] [] (zs_aloneBehind33 hs1.2 (show 23 < 24 by decide)) rfl rfl ?_
  rintro _ _ ⟨rfl, rfl⟩
  exact zq_retn zt_X8_alone rfl rfl (⟨rfl, hC1, f1.wk (by simp +contextual [zSC])⟩)
set_option maxRecDepth 100000 in
set_option maxHeartbeats 400000 in
theorem zs_alonem {τ : zTd} {S : zES} {H : zSH} {μ0 : zq_Me} (hM : zIm τ S H μ0) : zq_Wp zn_X9_alone 0 [(0, .ref 50)] [] μ0 (zRm' (.int (nI (zal (ynp τ) (yRt τ 0) 23))) τ S H μ0) := by
  refine zq_go zt_X9_alone 1 [] 1 [(0, .ref 50)] [.ref 50] μ0 rfl trivial ?_
  refine zq_call zt_X9_alone [.ref 50] [] (zs_aloneOf hM) rfl rfl ?_
  rintro _ ν1 ⟨rfl, n1, k1⟩
  exact zq_retn zt_X9_alone rfl rfl (⟨rfl, n1, k1⟩)
