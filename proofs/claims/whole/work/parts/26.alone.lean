/-! ===== alone, most: both sides ===== -/
def ztk (R : Nat → Nat → Nat) (h : Nat) : Nat → Nat → Bool
  | 0, _ => false
  | p + 1, x => ztk R h p x || decide (R p h = x)
def zsh (R : Nat → Nat → Nat) (h : Nat) : Nat → Nat → Bool
  | 0, _ => false
  | p + 1, x => zsh R h p x || (ztk R h p x && decide (R p h = x))
theorem ztk_succ (R : Nat → Nat → Nat) (h p x : Nat) : ztk R h (p + 1) x = (ztk R h p x || decide (R p h = x)) := rfl
theorem zsh_succ (R : Nat → Nat → Nat) (h p x : Nat) : zsh R h (p + 1) x = (zsh R h p x || (ztk R h p x && decide (R p h = x))) := rfl
theorem ztk_iff {R : Nat → Nat → Nat} {h x : Nat} : ∀ {n : Nat}, ztk R h n x = true ↔ ∃ q, q < n ∧ R q h = x
  | 0 => ⟨fun h => (by cases h), fun ⟨q, h, _⟩ => absurd h (Nat.not_lt_zero q)⟩
  | n + 1 => by
    rw [ztk_succ, Bool.or_eq_true, ztk_iff (n := n), decide_eq_true_eq]
    constructor
    · rintro (⟨q, h1, h2⟩ | h1)
      · exact ⟨q, by omega, h2⟩
      · exact ⟨n, by omega, h1⟩
    · rintro ⟨q, h1, h2⟩
      by_cases hq : q = n
      · rw [hq] at h2; exact Or.inr h2
      · exact Or.inl ⟨q, by omega, h2⟩
theorem zsh_iff {R : Nat → Nat → Nat} {h x : Nat} : ∀ {n : Nat}, zsh R h n x = true ↔ ∃ q r, q < r ∧ r < n ∧ R q h = x ∧ R r h = x
  | 0 => ⟨fun h => (by cases h), fun ⟨q, r, _, h, _⟩ => absurd h (Nat.not_lt_zero r)⟩
  | n + 1 => by
    rw [zsh_succ, Bool.or_eq_true, zsh_iff (n := n), Bool.and_eq_true, ztk_iff, decide_eq_true_eq]
    constructor
    · rintro (⟨q, r, h1, h2, h3, h4⟩ | ⟨⟨q, h1, h2⟩, h3⟩)
      · exact ⟨q, r, h1, by omega, h3, h4⟩
      · exact ⟨q, n, h1, by omega, h2, h3⟩
    · rintro ⟨q, r, h1, h2, h3, h4⟩
      by_cases hr : r = n
      · rw [hr] at h1 h4; exact Or.inr ⟨⟨q, h1, h3⟩, h4⟩
      · exact Or.inl ⟨q, r, h1, by omega, h3, h4⟩
theorem zal_eq {np : Nat} {R : Nat → Nat → Nat} {h p : Nat} (hp : p < np) : (!zsh R h np (R p h)) = zbi np R h p := by
  unfold zbi
  cases hs : zsh R h np (R p h) with
  | true =>
    obtain ⟨q, r, h1, h2, h3, h4⟩ := zsh_iff.mp hs
    symm
    refine decide_eq_false (fun he => ?_)
    have key : ∀ i, i < np → R i h = R p h → i = p := by
      intro i hi hR
      have h5 := congrArg (fun m => m.testBit i) he
      simp only [zwho, zm_tb, Nat.testBit_two_pow, hi, hR, decide_true, Bool.and_self] at h5
      exact (of_decide_eq_true h5.symm).symm
    have e1 := key q (by omega) h3
    have e2 := key r h2 h4
    omega
  | false =>
    symm
    refine decide_eq_true ?_
    apply Nat.eq_of_testBit_eq
    intro i
    unfold zwho
    rw [zm_tb, Nat.testBit_two_pow]
    by_cases hi : p = i
    · subst hi; simp [hp]
    · have h0 : ¬ (i < np ∧ R i h = R p h) := by
        rintro ⟨a, b⟩
        have : zsh R h np (R p h) = true := by
          by_cases hlt : i < p
          · exact zsh_iff.mpr ⟨i, p, hlt, hp, b, rfl⟩
          · exact zsh_iff.mpr ⟨p, i, by omega, a, rfl, b⟩
        rw [hs] at this
        cases this
      simp only [hi, decide_false]
      by_cases ha : i < np
      · have hb : ¬ R i h = R p h := fun b => h0 ⟨ha, b⟩
        simp [hb]
      · simp [ha]
theorem zm_and_pow {p : Nat → Bool} {n k : Nat} (hk : k < n) : zm p n &&& 2 ^ k = if p k = true then 2 ^ k else 0 := by
  apply Nat.eq_of_testBit_eq
  intro i
  rw [Nat.testBit_and, zm_tb, Nat.testBit_two_pow]
  by_cases h : k = i
  · subst h
    cases hp : p k <;> simp [hk]
  · split
    · rw [Nat.testBit_two_pow]; simp [h]
    · simp [h]
/-- the greatest of f over the first j -/
def zmx (f : Nat → Nat) : Nat → Nat
  | 0 => 0
  | j + 1 => if zmx f j < f j then f j else zmx f j
theorem zmx_le {f : Nat → Nat} {c : Nat} (hf : ∀ i, f i ≤ c) : ∀ j, zmx f j ≤ c
  | 0 => Nat.zero_le _
  | j + 1 => by
    have := zmx_le hf j
    have := hf j
    unfold zmx
    split <;> omega
def zcnt (np : Nat) (R : Nat → Nat → Nat) (h r : Nat) : Nat := zc (zwho np R h r).testBit 24
def zmo (np : Nat) (R : Nat → Nat → Nat) (h : Nat) : Nat := zmx (zcnt np R h) 8
theorem zcnt_le (np : Nat) (R : Nat → Nat → Nat) (h r : Nat) : zcnt np R h r ≤ 24 := zc_le _ _
set_option maxRecDepth 100000 in
set_option maxHeartbeats 4000000 in
theorem zs_alone33_a {Q : zq_Post} {np : Nat} {R : Nat → Nat → Nat} {μ : zq_Me} (hQ : zQ33 np R μ) {h : Nat} (hh : h < 24) (kk : zq_Wp zn_X7_aloneBehind 48 [(0, .ref 33), (1, .int (nI h)), (3, .int (nI (zm (zsh R h np) 8)))] [] μ Q) : ∀ (j p : Nat), p + j = np → zq_Wp zn_X7_aloneBehind 7 [(0, .ref 33), (1, .int (nI h)), (2, .int (nI (zm (ztk R h p) 8))), (3, .int (nI (zm (zsh R h p) 8))), (4, .int (nI p))] [] μ Q := by
  intro j
  induction j with
  | zero =>
    intro p hij
    have hnp := hQ.1
    obtain rfl : p = np := by omega
    refine zq_go zt_X7_aloneBehind 5 [] (if (μ.1 6 5) ≤ (nI p) then 48 else 19) [(0, .ref 33), (1, .int (nI h)), (2, .int (nI (zm (ztk R h p) 8))), (3, .int (nI (zm (zsh R h p) 8))), (4, .int (nI p))] [] μ rfl trivial ?_
    rw [hQ.2.1]
    rw [if_pos (by rw [zn_le (by omega) (by omega)]; omega)]
    exact zq_drp [0, 1, 3] [(0, .ref 33), (1, .int (nI h)), (3, .int (nI (zm (zsh R h p) 8)))] rfl kk
  | succ j ih =>
    intro p hij
    have hnp := hQ.1
    obtain ⟨hr9, hr8⟩ := hQ.2.2 p h (by omega) hh
    refine zq_go zt_X7_aloneBehind 5 [] (if (μ.1 6 5) ≤ (nI p) then 48 else 19) [(0, .ref 33), (1, .int (nI h)), (2, .int (nI (zm (ztk R h p) 8))), (3, .int (nI (zm (zsh R h p) 8))), (4, .int (nI p))] [] μ rfl trivial ?_
    rw [hQ.2.1]
    rw [if_neg (by rw [zn_le (by omega) (by omega)]; omega)]
    refine zq_go zt_X7_aloneBehind 4 [] 24 [(0, .ref 33), (1, .int (nI h)), (2, .int (nI (zm (ztk R h p) 8))), (3, .int (nI (zm (zsh R h p) 8))), (4, .int (nI p))] [.int (nI p), .int (nI h), .ref 33, .int (nI 1)] μ rfl trivial ?_
    refine zq_call zt_X7_aloneBehind [.ref 33, .int (nI h), .int (nI p)] [.int (nI 1)] (zs_roomOf33 hh (show p < 8 by omega) hr9) rfl rfl ?_
    rintro _ _ ⟨rfl, rfl⟩
    refine zq_go zt_X7_aloneBehind 14 [] 7 [(0, .ref 33), (1, .int (nI h)), (2, .int ((nI (zm (ztk R h p) 8)) ||| ((nI 1) <<< ((nI (R p h)) &&& 31)))), (3, .int ((nI (zm (zsh R h p) 8)) ||| ((nI (zm (ztk R h p) 8)) &&& ((nI 1) <<< ((nI (R p h)) &&& 31))))), (4, .int ((nI p) + (nI 1))), (5, .int ((nI 1) <<< ((nI (R p h)) &&& 31)))] [] μ rfl trivial ?_
    rw [zn_add p 1]
    rw [zn_1shl (by omega), zn_and, zn_or, zn_or]
    have e1 : zm (ztk R h p) 8 ||| 2 ^ R p h = zm (ztk R h (p + 1)) 8 := by
      apply Nat.eq_of_testBit_eq
      intro i
      rw [Nat.testBit_or, zm_tb, zm_tb, Nat.testBit_two_pow, ztk_succ]
      by_cases h8 : i < 8
      · simp [h8]
      · have : ¬ R p h = i := by omega
        simp [h8, this]
    have e2 : zm (zsh R h p) 8 ||| (zm (ztk R h p) 8 &&& 2 ^ R p h) = zm (zsh R h (p + 1)) 8 := by
      rw [zm_and_pow hr8]
      apply Nat.eq_of_testBit_eq
      intro i
      rw [Nat.testBit_or, zm_tb, zm_tb, zsh_succ]
      by_cases ht : ztk R h p (R p h) = true
      · rw [if_pos ht, Nat.testBit_two_pow]
        by_cases h7 : R p h = i
        · subst h7; simp [ht, hr8]
        · simp [h7]
      · rw [if_neg ht]
        by_cases h7 : R p h = i
        · subst h7; simp [ht]
        · simp [h7]
    rw [e1, e2]
    exact zq_drp [0, 1, 2, 3, 4] [(0, .ref 33), (1, .int (nI h)), (2, .int (nI (zm (ztk R h (p + 1)) 8))), (3, .int (nI (zm (zsh R h (p + 1)) 8))), (4, .int (nI (p + 1)))] rfl (ih (p + 1) (by omega))
set_option maxRecDepth 100000 in
set_option maxHeartbeats 4000000 in
theorem zs_alone33_b {Q : zq_Post} {np : Nat} {R : Nat → Nat → Nat} {μ : zq_Me} (hQ : zQ33 np R μ) {h : Nat} (hh : h < 24) (kk : zq_Wp zn_X7_aloneBehind 95 [(4, .int (nI (zm (fun p => !zsh R h np (R p h)) np)))] [] μ Q) : ∀ (j p : Nat), p + j = np → zq_Wp zn_X7_aloneBehind 54 [(0, .ref 33), (1, .int (nI h)), (3, .int (nI (zm (zsh R h np) 8))), (4, .int (nI (zm (fun p => !zsh R h np (R p h)) p))), (5, .int (nI p))] [] μ Q := by
  intro j
  induction j with
  | zero =>
    intro p hij
    have hnp := hQ.1
    have hp9 : p = np := by omega
    refine zq_go zt_X7_aloneBehind 5 [] (if (μ.1 6 5) ≤ (nI p) then 95 else 66) [(0, .ref 33), (1, .int (nI h)), (3, .int (nI (zm (zsh R h np) 8))), (4, .int (nI (zm (fun p => !zsh R h np (R p h)) p))), (5, .int (nI p))] [] μ rfl trivial ?_
    rw [hQ.2.1]
    rw [if_pos (by rw [zn_le (by omega) (by omega)]; omega)]
    subst hp9
    exact zq_drp [4] [(4, .int (nI (zm (fun q => !zsh R h p (R q h)) p)))] rfl kk
  | succ j ih =>
    intro p hij
    have hnp := hQ.1
    obtain ⟨hr9, hr8⟩ := hQ.2.2 p h (by omega) hh
    have hsl := zm_lt (zsh R h np) 8
    refine zq_go zt_X7_aloneBehind 5 [] (if (μ.1 6 5) ≤ (nI p) then 95 else 66) [(0, .ref 33), (1, .int (nI h)), (3, .int (nI (zm (zsh R h np) 8))), (4, .int (nI (zm (fun p => !zsh R h np (R p h)) p))), (5, .int (nI p))] [] μ rfl trivial ?_
    rw [hQ.2.1]
    rw [if_neg (by rw [zn_le (by omega) (by omega)]; omega)]
    refine zq_go zt_X7_aloneBehind 4 [] 71 [(0, .ref 33), (1, .int (nI h)), (3, .int (nI (zm (zsh R h np) 8))), (4, .int (nI (zm (fun p => !zsh R h np (R p h)) p))), (5, .int (nI p))] [.int (nI p), .int (nI h), .ref 33, .int (nI (zm (zsh R h np) 8))] μ rfl trivial ?_
    refine zq_call zt_X7_aloneBehind [.ref 33, .int (nI h), .int (nI p)] [.int (nI (zm (zsh R h np) 8))] (zs_roomOf33 hh (show p < 8 by omega) hr9) rfl rfl ?_
    rintro _ _ ⟨rfl, rfl⟩
    refine zq_go zt_X7_aloneBehind 4 [] (if ¬ (((nI (zm (zsh R h np) 8)) >>> ((nI (R p h)) &&& 31)) &&& (nI 1)) = 0 then 89 else 80) [(0, .ref 33), (1, .int (nI h)), (3, .int (nI (zm (zsh R h np) 8))), (4, .int (nI (zm (fun p => !zsh R h np (R p h)) p))), (5, .int (nI p))] [] μ rfl trivial ?_
    rw [zn_bit (by omega) (by omega), zB_bit, zm_tb, decide_eq_true hr8, Bool.true_and]
    refine zq_ite (fun h24 => ?_) (fun h24 => ?_)
    · have hq9 := zB_t h24
      refine zq_go zt_X7_aloneBehind 2 [] 54 [(0, .ref 33), (1, .int (nI h)), (3, .int (nI (zm (zsh R h np) 8))), (4, .int (nI (zm (fun p => !zsh R h np (R p h)) p))), (5, .int ((nI p) + (nI 1)))] [] μ rfl trivial ?_
      rw [zn_add p 1]
      have h9 := ih (p + 1) (by omega)
      rw [zm_f (p := fun p => !zsh R h np (R p h)) (n := p) (by show (!zsh R h np (R p h)) = false; rw [hq9]; rfl)] at h9
      exact h9
    · have hq9 := zB_f (Classical.not_not.mp h24)
      refine zq_go zt_X7_aloneBehind 8 [] 54 [(0, .ref 33), (1, .int (nI h)), (3, .int (nI (zm (zsh R h np) 8))), (4, .int ((nI (zm (fun p => !zsh R h np (R p h)) p)) ||| ((nI 1) <<< ((nI p) &&& 31)))), (5, .int ((nI p) + (nI 1)))] [] μ rfl trivial ?_
      rw [zn_add p 1]
      rw [zn_1shl (by omega), zn_or]
      have h9 := ih (p + 1) (by omega)
      rw [zm_t (p := fun p => !zsh R h np (R p h)) (n := p) (by show (!zsh R h np (R p h)) = true; rw [hq9]; rfl)] at h9
      exact h9
set_option maxRecDepth 100000 in
set_option maxHeartbeats 4000000 in
theorem zs_aloneBehind33 {np : Nat} {R : Nat → Nat → Nat} {μ : zq_Me} (hQ : zQ33 np R μ) {h : Nat} (hh : h < 24) : zq_Wp zn_X7_aloneBehind 0 [(0, .ref 33), (1, .int (nI h))] [] μ (zq_pi (nI (zal np R h)) μ) := by
  refine zq_go zt_X7_aloneBehind 6 [] 7 [(0, .ref 33), (1, .int (nI h)), (2, .int (nI 0)), (3, .int (nI 0)), (4, .int (nI 0))] [] μ rfl trivial ?_
  have e0 : zm (ztk R h 0) 8 = 0 := zm_0.mpr (fun i _ => rfl)
  have e1 : zm (zsh R h 0) 8 = 0 := zm_0.mpr (fun i _ => rfl)
  refine (fun hk => by have h9 := zs_alone33_a (Q := zq_pi (nI (zal np R h)) μ) hQ hh hk np 0 (by omega); rw [e0, e1] at h9; exact h9) ?_
  refine zq_go zt_X7_aloneBehind 4 [] 54 [(0, .ref 33), (1, .int (nI h)), (3, .int (nI (zm (zsh R h np) 8))), (4, .int (nI 0)), (5, .int (nI 0))] [] μ rfl trivial ?_
  refine zs_alone33_b hQ hh ?_ np 0 (by omega)
  refine zq_go zt_X7_aloneBehind 1 [] 97 [(4, .int (nI (zm (fun p => !zsh R h np (R p h)) np)))] [.int (nI (zm (fun p => !zsh R h np (R p h)) np))] μ rfl trivial ?_
  rw [show zm (fun p => !zsh R h np (R p h)) np = zal np R h from zm_congr (fun p hp => zal_eq hp)]
  exact zq_retn zt_X7_aloneBehind rfl rfl (⟨rfl, rfl⟩)
set_option maxRecDepth 100000 in
set_option maxHeartbeats 4000000 in
theorem zs_hoursAlone33_l {Q : zq_Post} {np : Nat} {R : Nat → Nat → Nat} {μ : zq_Me} (hQ : zQ33 np R μ) {p : Nat} (hp : p < np) (kk : zq_Wp zn_X7_hoursAlone 28 [(2, .int (nI (zc (fun h => zbi np R h p) 24)))] [] μ Q) : ∀ (j h : Nat), h + j = 24 → zq_Wp zn_X7_hoursAlone 4 [(0, .ref 33), (1, .int (nI p)), (2, .int (nI (zc (fun h => zbi np R h p) h))), (3, .int (nI h))] [] μ Q := by
  intro j
  induction j with
  | zero =>
    intro h hij
    obtain rfl : h = 24 := by omega
    refine zq_go zt_X7_hoursAlone 3 [] (if (nI 24) ≤ (nI 24) then 28 else 10) [(0, .ref 33), (1, .int (nI p)), (2, .int (nI (zc (fun h => zbi np R h p) 24))), (3, .int (nI 24))] [] μ rfl trivial ?_
    rw [if_pos (by decide)]
    exact zq_drp [2] [(2, .int (nI (zc (fun h => zbi np R h p) 24)))] rfl kk
  | succ j ih =>
    intro h hij
    refine zq_go zt_X7_hoursAlone 3 [] (if (nI 24) ≤ (nI h) then 28 else 10) [(0, .ref 33), (1, .int (nI p)), (2, .int (nI (zc (fun h => zbi np R h p) h))), (3, .int (nI h))] [] μ rfl trivial ?_
    rw [if_neg (by rw [zn_le (by omega) (by omega)]; omega)]
    refine zq_go zt_X7_hoursAlone 3 [] 13 [(0, .ref 33), (1, .int (nI p)), (2, .int (nI (zc (fun h => zbi np R h p) h))), (3, .int (nI h))] [.int (nI h), .ref 33, .int (nI (zc (fun h => zbi np R h p) h))] μ rfl trivial ?_
    refine zq_call zt_X7_hoursAlone [.ref 33, .int (nI h)] [.int (nI (zc (fun h => zbi np R h p) h))] (zs_aloneBehind33 hQ (show h < 24 by omega)) rfl rfl ?_
    rintro _ _ ⟨rfl, rfl⟩
    refine zq_go zt_X7_hoursAlone 8 [] 4 [(0, .ref 33), (1, .int (nI p)), (2, .int ((nI (zc (fun h => zbi np R h p) h)) + (((nI (zal np R h)) >>> ((nI p) &&& 31)) &&& (nI 1)))), (3, .int ((nI h) + (nI 1)))] [] μ rfl trivial ?_
    rw [zn_add h 1]
    have hal := zal_lt hQ.1 R h
    have hnp := hQ.1
    rw [zn_bit (by omega) (by omega), zn_add]
    have h9 := ih (h + 1) (by omega)
    have e9 : zc (fun h => zbi np R h p) (h + 1) = zc (fun h => zbi np R h p) h + (if (zal np R h).testBit p = true then 1 else 0) := by
      show _ + _ = _
      unfold zal
      rw [zm_tb, decide_eq_true hp, Bool.true_and]
    rw [e9] at h9
    exact h9
set_option maxRecDepth 100000 in
set_option maxHeartbeats 4000000 in
theorem zs_hoursAlone33 {np : Nat} {R : Nat → Nat → Nat} {μ : zq_Me} (hQ : zQ33 np R μ) {p : Nat} (hp : p < np) : zq_Wp zn_X7_hoursAlone 0 [(0, .ref 33), (1, .int (nI p))] [] μ (zq_pi (nI (zc (fun h => zbi np R h p) 24)) μ) := by
  refine zq_go zt_X7_hoursAlone 4 [] 4 [(0, .ref 33), (1, .int (nI p)), (2, .int (nI 0)), (3, .int (nI 0))] [] μ rfl trivial ?_
  refine zs_hoursAlone33_l hQ hp ?_ 24 0 (by omega)
  refine zq_go zt_X7_hoursAlone 1 [] 29 [(2, .int (nI (zc (fun h => zbi np R h p) 24)))] [.int (nI (zc (fun h => zbi np R h p) 24))] μ rfl trivial ?_
  exact zq_retn zt_X7_hoursAlone rfl rfl (⟨rfl, rfl⟩)
set_option maxRecDepth 100000 in
set_option maxHeartbeats 4000000 in
theorem zs_mostIn33_l {Q : zq_Post} {np : Nat} {R : Nat → Nat → Nat} {μ : zq_Me} (hQ : zQ33 np R μ) {h : Nat} (hh : h < 24) (kk : zq_Wp zn_X7_mostIn 30 [(2, .int (nI (zmx (zcnt np R h) 8)))] [] μ Q) : ∀ (j r : Nat), r + j = 8 → zq_Wp zn_X7_mostIn 4 [(0, .ref 33), (1, .int (nI h)), (2, .int (nI (zmx (zcnt np R h) r))), (3, .int (nI r))] [] μ Q := by
  intro j
  induction j with
  | zero =>
    intro r hij
    obtain rfl : r = 8 := by omega
    refine zq_go zt_X7_mostIn 3 [] (if (nI 8) ≤ (nI 8) then 30 else 10) [(0, .ref 33), (1, .int (nI h)), (2, .int (nI (zmx (zcnt np R h) 8))), (3, .int (nI 8))] [] μ rfl trivial ?_
    rw [if_pos (by decide)]
    exact zq_drp [2] [(2, .int (nI (zmx (zcnt np R h) 8)))] rfl kk
  | succ j ih =>
    intro r hij
    refine zq_go zt_X7_mostIn 3 [] (if (nI 8) ≤ (nI r) then 30 else 10) [(0, .ref 33), (1, .int (nI h)), (2, .int (nI (zmx (zcnt np R h) r))), (3, .int (nI r))] [] μ rfl trivial ?_
    rw [if_neg (by rw [zn_le (by omega) (by omega)]; omega)]
    have hm9 := zmx_le (zcnt_le np R h) r
    have hc9 := zcnt_le np R h r
    refine zq_go zt_X7_mostIn 4 [] 14 [(0, .ref 33), (1, .int (nI h)), (2, .int (nI (zmx (zcnt np R h) r))), (3, .int (nI r))] [.int (nI r), .int (nI h), .ref 33, .int (nI (zmx (zcnt np R h) r))] μ rfl trivial ?_
    refine zq_call zt_X7_mostIn [.ref 33, .int (nI h), .int (nI r)] [.int (nI (zmx (zcnt np R h) r))] (zs_whoIn33 hQ hh (show r < 2 ^ 31 by omega)) rfl rfl ?_
    rintro _ _ ⟨rfl, rfl⟩
    refine zq_call zt_X7_mostIn [.int (nI (zwho np R h r))] [.int (nI (zmx (zcnt np R h) r))] (zs_bc (n := zwho np R h r) (Nat.lt_trans (zwho_lt hQ.1 R h r) (by decide)) μ) rfl rfl ?_
    rintro _ _ ⟨rfl, rfl⟩
    refine zq_go zt_X7_mostIn 4 [] 4 [(0, .ref 33), (1, .int (nI h)), (2, .int (if (nI (zmx (zcnt np R h) r)) < (nI (zcnt np R h r)) then (nI (zcnt np R h r)) else (nI (zmx (zcnt np R h) r)))), (3, .int ((nI r) + (nI 1)))] [] μ rfl trivial ?_
    rw [zn_add r 1]
    have e9 : (if nI (zmx (zcnt np R h) r) < nI (zcnt np R h r) then nI (zcnt np R h r) else nI (zmx (zcnt np R h) r)) = nI (zmx (zcnt np R h) (r + 1)) := by
      show _ = nI (if _ then _ else _)
      by_cases h8 : zmx (zcnt np R h) r < zcnt np R h r
      · rw [if_pos (by rw [zn_lt (by omega) (by omega)]; exact h8), if_pos h8]
      · rw [if_neg (by rw [zn_lt (by omega) (by omega)]; exact h8), if_neg h8]
    rw [e9]
    exact ih (r + 1) (by omega)
set_option maxRecDepth 100000 in
set_option maxHeartbeats 4000000 in
theorem zs_mostIn33 {np : Nat} {R : Nat → Nat → Nat} {μ : zq_Me} (hQ : zQ33 np R μ) {h : Nat} (hh : h < 24) : zq_Wp zn_X7_mostIn 0 [(0, .ref 33), (1, .int (nI h))] [] μ (zq_pi (nI (zmo np R h)) μ) := by
  refine zq_go zt_X7_mostIn 4 [] 4 [(0, .ref 33), (1, .int (nI h)), (2, .int (nI 0)), (3, .int (nI 0))] [] μ rfl trivial ?_
  refine zs_mostIn33_l hQ hh ?_ 8 0 (by omega)
  refine zq_go zt_X7_mostIn 1 [] 31 [(2, .int (nI (zmx (zcnt np R h) 8)))] [.int (nI (zmx (zcnt np R h) 8))] μ rfl trivial ?_
  exact zq_retn zt_X7_mostIn rfl rfl (⟨rfl, rfl⟩)
set_option maxRecDepth 100000 in
set_option maxHeartbeats 4000000 in
theorem zs_alone40_a {Q : zq_Post} {np : Nat} {R : Nat → Nat → Nat} {μ : zq_Me} (hQ : zQ40 np R μ) {h : Nat} (hh : h < 24) (kk : zq_Wp zn_X7_aloneBehind 48 [(0, .ref 40), (1, .int (nI h)), (3, .int (nI (zm (zsh R h np) 8)))] [] μ Q) : ∀ (j p : Nat), p + j = np → zq_Wp zn_X7_aloneBehind 7 [(0, .ref 40), (1, .int (nI h)), (2, .int (nI (zm (ztk R h p) 8))), (3, .int (nI (zm (zsh R h p) 8))), (4, .int (nI p))] [] μ Q := by
  intro j
  induction j with
  | zero =>
    intro p hij
    have hnp := hQ.1
    obtain rfl : p = np := by omega
    refine zq_go zt_X7_aloneBehind 5 [] (if (μ.1 6 5) ≤ (nI p) then 48 else 19) [(0, .ref 40), (1, .int (nI h)), (2, .int (nI (zm (ztk R h p) 8))), (3, .int (nI (zm (zsh R h p) 8))), (4, .int (nI p))] [] μ rfl trivial ?_
    rw [hQ.2.1]
    rw [if_pos (by rw [zn_le (by omega) (by omega)]; omega)]
    exact zq_drp [0, 1, 3] [(0, .ref 40), (1, .int (nI h)), (3, .int (nI (zm (zsh R h p) 8)))] rfl kk
  | succ j ih =>
    intro p hij
    have hnp := hQ.1
    obtain ⟨hr9, hr8⟩ := hQ.2.2 p h (by omega) hh
    refine zq_go zt_X7_aloneBehind 5 [] (if (μ.1 6 5) ≤ (nI p) then 48 else 19) [(0, .ref 40), (1, .int (nI h)), (2, .int (nI (zm (ztk R h p) 8))), (3, .int (nI (zm (zsh R h p) 8))), (4, .int (nI p))] [] μ rfl trivial ?_
    rw [hQ.2.1]
    rw [if_neg (by rw [zn_le (by omega) (by omega)]; omega)]
    refine zq_go zt_X7_aloneBehind 4 [] 24 [(0, .ref 40), (1, .int (nI h)), (2, .int (nI (zm (ztk R h p) 8))), (3, .int (nI (zm (zsh R h p) 8))), (4, .int (nI p))] [.int (nI p), .int (nI h), .ref 40, .int (nI 1)] μ rfl trivial ?_
    refine zq_call zt_X7_aloneBehind [.ref 40, .int (nI h), .int (nI p)] [.int (nI 1)] (zs_roomOf40 hh (show p < 8 by omega) hr9) rfl rfl ?_
    rintro _ _ ⟨rfl, rfl⟩
    refine zq_go zt_X7_aloneBehind 14 [] 7 [(0, .ref 40), (1, .int (nI h)), (2, .int ((nI (zm (ztk R h p) 8)) ||| ((nI 1) <<< ((nI (R p h)) &&& 31)))), (3, .int ((nI (zm (zsh R h p) 8)) ||| ((nI (zm (ztk R h p) 8)) &&& ((nI 1) <<< ((nI (R p h)) &&& 31))))), (4, .int ((nI p) + (nI 1))), (5, .int ((nI 1) <<< ((nI (R p h)) &&& 31)))] [] μ rfl trivial ?_
    rw [zn_add p 1]
    rw [zn_1shl (by omega), zn_and, zn_or, zn_or]
    have e1 : zm (ztk R h p) 8 ||| 2 ^ R p h = zm (ztk R h (p + 1)) 8 := by
      apply Nat.eq_of_testBit_eq
      intro i
      rw [Nat.testBit_or, zm_tb, zm_tb, Nat.testBit_two_pow, ztk_succ]
      by_cases h8 : i < 8
      · simp [h8]
      · have : ¬ R p h = i := by omega
        simp [h8, this]
    have e2 : zm (zsh R h p) 8 ||| (zm (ztk R h p) 8 &&& 2 ^ R p h) = zm (zsh R h (p + 1)) 8 := by
      rw [zm_and_pow hr8]
      apply Nat.eq_of_testBit_eq
      intro i
      rw [Nat.testBit_or, zm_tb, zm_tb, zsh_succ]
      by_cases ht : ztk R h p (R p h) = true
      · rw [if_pos ht, Nat.testBit_two_pow]
        by_cases h7 : R p h = i
        · subst h7; simp [ht, hr8]
        · simp [h7]
      · rw [if_neg ht]
        by_cases h7 : R p h = i
        · subst h7; simp [ht]
        · simp [h7]
    rw [e1, e2]
    exact zq_drp [0, 1, 2, 3, 4] [(0, .ref 40), (1, .int (nI h)), (2, .int (nI (zm (ztk R h (p + 1)) 8))), (3, .int (nI (zm (zsh R h (p + 1)) 8))), (4, .int (nI (p + 1)))] rfl (ih (p + 1) (by omega))
set_option maxRecDepth 100000 in
set_option maxHeartbeats 4000000 in
theorem zs_alone40_b {Q : zq_Post} {np : Nat} {R : Nat → Nat → Nat} {μ : zq_Me} (hQ : zQ40 np R μ) {h : Nat} (hh : h < 24) (kk : zq_Wp zn_X7_aloneBehind 95 [(4, .int (nI (zm (fun p => !zsh R h np (R p h)) np)))] [] μ Q) : ∀ (j p : Nat), p + j = np → zq_Wp zn_X7_aloneBehind 54 [(0, .ref 40), (1, .int (nI h)), (3, .int (nI (zm (zsh R h np) 8))), (4, .int (nI (zm (fun p => !zsh R h np (R p h)) p))), (5, .int (nI p))] [] μ Q := by
  intro j
  induction j with
  | zero =>
    intro p hij
    have hnp := hQ.1
    have hp9 : p = np := by omega
    refine zq_go zt_X7_aloneBehind 5 [] (if (μ.1 6 5) ≤ (nI p) then 95 else 66) [(0, .ref 40), (1, .int (nI h)), (3, .int (nI (zm (zsh R h np) 8))), (4, .int (nI (zm (fun p => !zsh R h np (R p h)) p))), (5, .int (nI p))] [] μ rfl trivial ?_
    rw [hQ.2.1]
    rw [if_pos (by rw [zn_le (by omega) (by omega)]; omega)]
    subst hp9
    exact zq_drp [4] [(4, .int (nI (zm (fun q => !zsh R h p (R q h)) p)))] rfl kk
  | succ j ih =>
    intro p hij
    have hnp := hQ.1
    obtain ⟨hr9, hr8⟩ := hQ.2.2 p h (by omega) hh
    have hsl := zm_lt (zsh R h np) 8
    refine zq_go zt_X7_aloneBehind 5 [] (if (μ.1 6 5) ≤ (nI p) then 95 else 66) [(0, .ref 40), (1, .int (nI h)), (3, .int (nI (zm (zsh R h np) 8))), (4, .int (nI (zm (fun p => !zsh R h np (R p h)) p))), (5, .int (nI p))] [] μ rfl trivial ?_
    rw [hQ.2.1]
    rw [if_neg (by rw [zn_le (by omega) (by omega)]; omega)]
    refine zq_go zt_X7_aloneBehind 4 [] 71 [(0, .ref 40), (1, .int (nI h)), (3, .int (nI (zm (zsh R h np) 8))), (4, .int (nI (zm (fun p => !zsh R h np (R p h)) p))), (5, .int (nI p))] [.int (nI p), .int (nI h), .ref 40, .int (nI (zm (zsh R h np) 8))] μ rfl trivial ?_
    refine zq_call zt_X7_aloneBehind [.ref 40, .int (nI h), .int (nI p)] [.int (nI (zm (zsh R h np) 8))] (zs_roomOf40 hh (show p < 8 by omega) hr9) rfl rfl ?_
    rintro _ _ ⟨rfl, rfl⟩
    refine zq_go zt_X7_aloneBehind 4 [] (if ¬ (((nI (zm (zsh R h np) 8)) >>> ((nI (R p h)) &&& 31)) &&& (nI 1)) = 0 then 89 else 80) [(0, .ref 40), (1, .int (nI h)), (3, .int (nI (zm (zsh R h np) 8))), (4, .int (nI (zm (fun p => !zsh R h np (R p h)) p))), (5, .int (nI p))] [] μ rfl trivial ?_
    rw [zn_bit (by omega) (by omega), zB_bit, zm_tb, decide_eq_true hr8, Bool.true_and]
    refine zq_ite (fun h24 => ?_) (fun h24 => ?_)
    · have hq9 := zB_t h24
      refine zq_go zt_X7_aloneBehind 2 [] 54 [(0, .ref 40), (1, .int (nI h)), (3, .int (nI (zm (zsh R h np) 8))), (4, .int (nI (zm (fun p => !zsh R h np (R p h)) p))), (5, .int ((nI p) + (nI 1)))] [] μ rfl trivial ?_
      rw [zn_add p 1]
      have h9 := ih (p + 1) (by omega)
      rw [zm_f (p := fun p => !zsh R h np (R p h)) (n := p) (by show (!zsh R h np (R p h)) = false; rw [hq9]; rfl)] at h9
      exact h9
    · have hq9 := zB_f (Classical.not_not.mp h24)
      refine zq_go zt_X7_aloneBehind 8 [] 54 [(0, .ref 40), (1, .int (nI h)), (3, .int (nI (zm (zsh R h np) 8))), (4, .int ((nI (zm (fun p => !zsh R h np (R p h)) p)) ||| ((nI 1) <<< ((nI p) &&& 31)))), (5, .int ((nI p) + (nI 1)))] [] μ rfl trivial ?_
      rw [zn_add p 1]
      rw [zn_1shl (by omega), zn_or]
      have h9 := ih (p + 1) (by omega)
      rw [zm_t (p := fun p => !zsh R h np (R p h)) (n := p) (by show (!zsh R h np (R p h)) = true; rw [hq9]; rfl)] at h9
      exact h9
set_option maxRecDepth 100000 in
set_option maxHeartbeats 4000000 in
theorem zs_aloneBehind40 {np : Nat} {R : Nat → Nat → Nat} {μ : zq_Me} (hQ : zQ40 np R μ) {h : Nat} (hh : h < 24) : zq_Wp zn_X7_aloneBehind 0 [(0, .ref 40), (1, .int (nI h))] [] μ (zq_pi (nI (zal np R h)) μ) := by
  refine zq_go zt_X7_aloneBehind 6 [] 7 [(0, .ref 40), (1, .int (nI h)), (2, .int (nI 0)), (3, .int (nI 0)), (4, .int (nI 0))] [] μ rfl trivial ?_
  have e0 : zm (ztk R h 0) 8 = 0 := zm_0.mpr (fun i _ => rfl)
  have e1 : zm (zsh R h 0) 8 = 0 := zm_0.mpr (fun i _ => rfl)
  refine (fun hk => by have h9 := zs_alone40_a (Q := zq_pi (nI (zal np R h)) μ) hQ hh hk np 0 (by omega); rw [e0, e1] at h9; exact h9) ?_
  refine zq_go zt_X7_aloneBehind 4 [] 54 [(0, .ref 40), (1, .int (nI h)), (3, .int (nI (zm (zsh R h np) 8))), (4, .int (nI 0)), (5, .int (nI 0))] [] μ rfl trivial ?_
  refine zs_alone40_b hQ hh ?_ np 0 (by omega)
  refine zq_go zt_X7_aloneBehind 1 [] 97 [(4, .int (nI (zm (fun p => !zsh R h np (R p h)) np)))] [.int (nI (zm (fun p => !zsh R h np (R p h)) np))] μ rfl trivial ?_
  rw [show zm (fun p => !zsh R h np (R p h)) np = zal np R h from zm_congr (fun p hp => zal_eq hp)]
  exact zq_retn zt_X7_aloneBehind rfl rfl (⟨rfl, rfl⟩)
set_option maxRecDepth 100000 in
set_option maxHeartbeats 4000000 in
theorem zs_hoursAlone40_l {Q : zq_Post} {np : Nat} {R : Nat → Nat → Nat} {μ : zq_Me} (hQ : zQ40 np R μ) {p : Nat} (hp : p < np) (kk : zq_Wp zn_X7_hoursAlone 28 [(2, .int (nI (zc (fun h => zbi np R h p) 24)))] [] μ Q) : ∀ (j h : Nat), h + j = 24 → zq_Wp zn_X7_hoursAlone 4 [(0, .ref 40), (1, .int (nI p)), (2, .int (nI (zc (fun h => zbi np R h p) h))), (3, .int (nI h))] [] μ Q := by
  intro j
  induction j with
  | zero =>
    intro h hij
    obtain rfl : h = 24 := by omega
    refine zq_go zt_X7_hoursAlone 3 [] (if (nI 24) ≤ (nI 24) then 28 else 10) [(0, .ref 40), (1, .int (nI p)), (2, .int (nI (zc (fun h => zbi np R h p) 24))), (3, .int (nI 24))] [] μ rfl trivial ?_
    rw [if_pos (by decide)]
    exact zq_drp [2] [(2, .int (nI (zc (fun h => zbi np R h p) 24)))] rfl kk
  | succ j ih =>
    intro h hij
    refine zq_go zt_X7_hoursAlone 3 [] (if (nI 24) ≤ (nI h) then 28 else 10) [(0, .ref 40), (1, .int (nI p)), (2, .int (nI (zc (fun h => zbi np R h p) h))), (3, .int (nI h))] [] μ rfl trivial ?_
    rw [if_neg (by rw [zn_le (by omega) (by omega)]; omega)]
    refine zq_go zt_X7_hoursAlone 3 [] 13 [(0, .ref 40), (1, .int (nI p)), (2, .int (nI (zc (fun h => zbi np R h p) h))), (3, .int (nI h))] [.int (nI h), .ref 40, .int (nI (zc (fun h => zbi np R h p) h))] μ rfl trivial ?_
    refine zq_call zt_X7_hoursAlone [.ref 40, .int (nI h)] [.int (nI (zc (fun h => zbi np R h p) h))] (zs_aloneBehind40 hQ (show h < 24 by omega)) rfl rfl ?_
    rintro _ _ ⟨rfl, rfl⟩
    refine zq_go zt_X7_hoursAlone 8 [] 4 [(0, .ref 40), (1, .int (nI p)), (2, .int ((nI (zc (fun h => zbi np R h p) h)) + (((nI (zal np R h)) >>> ((nI p) &&& 31)) &&& (nI 1)))), (3, .int ((nI h) + (nI 1)))] [] μ rfl trivial ?_
    rw [zn_add h 1]
    have hal := zal_lt hQ.1 R h
    have hnp := hQ.1
    rw [zn_bit (by omega) (by omega), zn_add]
    have h9 := ih (h + 1) (by omega)
    have e9 : zc (fun h => zbi np R h p) (h + 1) = zc (fun h => zbi np R h p) h + (if (zal np R h).testBit p = true then 1 else 0) := by
      show _ + _ = _
      unfold zal
      rw [zm_tb, decide_eq_true hp, Bool.true_and]
    rw [e9] at h9
    exact h9
set_option maxRecDepth 100000 in
set_option maxHeartbeats 4000000 in
theorem zs_hoursAlone40 {np : Nat} {R : Nat → Nat → Nat} {μ : zq_Me} (hQ : zQ40 np R μ) {p : Nat} (hp : p < np) : zq_Wp zn_X7_hoursAlone 0 [(0, .ref 40), (1, .int (nI p))] [] μ (zq_pi (nI (zc (fun h => zbi np R h p) 24)) μ) := by
  refine zq_go zt_X7_hoursAlone 4 [] 4 [(0, .ref 40), (1, .int (nI p)), (2, .int (nI 0)), (3, .int (nI 0))] [] μ rfl trivial ?_
  refine zs_hoursAlone40_l hQ hp ?_ 24 0 (by omega)
  refine zq_go zt_X7_hoursAlone 1 [] 29 [(2, .int (nI (zc (fun h => zbi np R h p) 24)))] [.int (nI (zc (fun h => zbi np R h p) 24))] μ rfl trivial ?_
  exact zq_retn zt_X7_hoursAlone rfl rfl (⟨rfl, rfl⟩)
set_option maxRecDepth 100000 in
set_option maxHeartbeats 4000000 in
theorem zs_mostIn40_l {Q : zq_Post} {np : Nat} {R : Nat → Nat → Nat} {μ : zq_Me} (hQ : zQ40 np R μ) {h : Nat} (hh : h < 24) (kk : zq_Wp zn_X7_mostIn 30 [(2, .int (nI (zmx (zcnt np R h) 8)))] [] μ Q) : ∀ (j r : Nat), r + j = 8 → zq_Wp zn_X7_mostIn 4 [(0, .ref 40), (1, .int (nI h)), (2, .int (nI (zmx (zcnt np R h) r))), (3, .int (nI r))] [] μ Q := by
  intro j
  induction j with
  | zero =>
    intro r hij
    obtain rfl : r = 8 := by omega
    refine zq_go zt_X7_mostIn 3 [] (if (nI 8) ≤ (nI 8) then 30 else 10) [(0, .ref 40), (1, .int (nI h)), (2, .int (nI (zmx (zcnt np R h) 8))), (3, .int (nI 8))] [] μ rfl trivial ?_
    rw [if_pos (by decide)]
    exact zq_drp [2] [(2, .int (nI (zmx (zcnt np R h) 8)))] rfl kk
  | succ j ih =>
    intro r hij
    refine zq_go zt_X7_mostIn 3 [] (if (nI 8) ≤ (nI r) then 30 else 10) [(0, .ref 40), (1, .int (nI h)), (2, .int (nI (zmx (zcnt np R h) r))), (3, .int (nI r))] [] μ rfl trivial ?_
    rw [if_neg (by rw [zn_le (by omega) (by omega)]; omega)]
    have hm9 := zmx_le (zcnt_le np R h) r
    have hc9 := zcnt_le np R h r
    refine zq_go zt_X7_mostIn 4 [] 14 [(0, .ref 40), (1, .int (nI h)), (2, .int (nI (zmx (zcnt np R h) r))), (3, .int (nI r))] [.int (nI r), .int (nI h), .ref 40, .int (nI (zmx (zcnt np R h) r))] μ rfl trivial ?_
    refine zq_call zt_X7_mostIn [.ref 40, .int (nI h), .int (nI r)] [.int (nI (zmx (zcnt np R h) r))] (zs_whoIn40 hQ hh (show r < 2 ^ 31 by omega)) rfl rfl ?_
    rintro _ _ ⟨rfl, rfl⟩
    refine zq_call zt_X7_mostIn [.int (nI (zwho np R h r))] [.int (nI (zmx (zcnt np R h) r))] (zs_bc (n := zwho np R h r) (Nat.lt_trans (zwho_lt hQ.1 R h r) (by decide)) μ) rfl rfl ?_
    rintro _ _ ⟨rfl, rfl⟩
    refine zq_go zt_X7_mostIn 4 [] 4 [(0, .ref 40), (1, .int (nI h)), (2, .int (if (nI (zmx (zcnt np R h) r)) < (nI (zcnt np R h r)) then (nI (zcnt np R h r)) else (nI (zmx (zcnt np R h) r)))), (3, .int ((nI r) + (nI 1)))] [] μ rfl trivial ?_
    rw [zn_add r 1]
    have e9 : (if nI (zmx (zcnt np R h) r) < nI (zcnt np R h r) then nI (zcnt np R h r) else nI (zmx (zcnt np R h) r)) = nI (zmx (zcnt np R h) (r + 1)) := by
      show _ = nI (if _ then _ else _)
      by_cases h8 : zmx (zcnt np R h) r < zcnt np R h r
      · rw [if_pos (by rw [zn_lt (by omega) (by omega)]; exact h8), if_pos h8]
      · rw [if_neg (by rw [zn_lt (by omega) (by omega)]; exact h8), if_neg h8]
    rw [e9]
    exact ih (r + 1) (by omega)
set_option maxRecDepth 100000 in
set_option maxHeartbeats 4000000 in
theorem zs_mostIn40 {np : Nat} {R : Nat → Nat → Nat} {μ : zq_Me} (hQ : zQ40 np R μ) {h : Nat} (hh : h < 24) : zq_Wp zn_X7_mostIn 0 [(0, .ref 40), (1, .int (nI h))] [] μ (zq_pi (nI (zmo np R h)) μ) := by
  refine zq_go zt_X7_mostIn 4 [] 4 [(0, .ref 40), (1, .int (nI h)), (2, .int (nI 0)), (3, .int (nI 0))] [] μ rfl trivial ?_
  refine zs_mostIn40_l hQ hh ?_ 8 0 (by omega)
  refine zq_go zt_X7_mostIn 1 [] 31 [(2, .int (nI (zmx (zcnt np R h) 8)))] [.int (nI (zmx (zcnt np R h) 8))] μ rfl trivial ?_
  exact zq_retn zt_X7_mostIn rfl rfl (⟨rfl, rfl⟩)
