/-! ===== shortest ways between eight rooms ===== -/
/-- the least i below n of which p holds, or n -/
def zf (p : Nat → Bool) : Nat → Nat
  | 0 => 0
  | n + 1 => if zf p n < n then zf p n else if p n = true then n else n + 1
theorem zf_le (p : Nat → Bool) : ∀ n, zf p n ≤ n
  | 0 => Nat.le_refl _
  | n + 1 => by
    unfold zf
    split
    · omega
    · split <;> omega
theorem zf_min (p : Nat → Bool) : ∀ n i, i < zf p n → p i = false
  | 0, i, h => absurd h (Nat.not_lt_zero i)
  | n + 1, i, h => by
    have ih := zf_min p n
    have hl := zf_le p n
    unfold zf at h
    by_cases h1 : zf p n < n
    · rw [if_pos h1] at h; exact ih i h
    · rw [if_neg h1] at h
      have he : zf p n = n := by omega
      by_cases h2 : p n = true
      · rw [if_pos h2] at h; exact ih i (by omega)
      · rw [if_neg h2] at h
        by_cases h3 : i < n
        · exact ih i (by omega)
        · have : i = n := by omega
          subst this
          simpa using h2
theorem zf_hit (p : Nat → Bool) : ∀ n, zf p n < n → p (zf p n) = true
  | 0, h => absurd h (Nat.not_lt_zero _)
  | n + 1, h => by
    have ih := zf_hit p n
    unfold zf at h ⊢
    by_cases h1 : zf p n < n
    · rw [if_pos h1]; exact ih h1
    · rw [if_neg h1] at h ⊢
      by_cases h2 : p n = true
      · rw [if_pos h2]; exact h2
      · rw [if_neg h2] at h; omega
theorem zf_eq {p : Nat → Bool} {n k : Nat} (hk : k < n) (h : p k = true) (hm : ∀ i, i < k → p i = false) : zf p n = k := by
  have h1 : ¬ k < zf p n := fun q => by rw [zf_min p n k q] at h; cases h
  by_cases h2 : zf p n < k
  · have h3 := zf_hit p n (by omega)
    rw [hm _ h2] at h3
    cases h3
  · omega
theorem zf_none {p : Nat → Bool} {n : Nat} (h : ∀ i, i < n → p i = false) : zf p n = n := by
  have h1 := zf_le p n
  by_cases h2 : zf p n < n
  · have h3 := zf_hit p n h2
    rw [h _ h2] at h3
    cases h3
  · omega
theorem zf_lt {p : Nat → Bool} {n k : Nat} (hk : k < n) (h : p k = true) : zf p n ≤ k := by
  have h1 : ¬ k < zf p n := fun q => by rw [zf_min p n k q] at h; cases h
  omega
theorem zf_congr {p q : Nat → Bool} {n : Nat} (h : ∀ i, i < n → p i = q i) : zf p n = zf q n := by
  have h1 := zf_le p n
  by_cases h2 : zf p n < n
  · exact (zf_eq h2 (by rw [← h _ h2]; exact zf_hit p n h2) (fun i hi => by rw [← h i (by omega)]; exact zf_min p n i hi)).symm
  · have he : zf p n = n := by omega
    rw [he]
    exact (zf_none (fun i hi => by rw [← h i hi]; exact zf_min p n i (by omega))).symm
theorem zf_ex {p : Nat → Bool} {n : Nat} : zf p n < n ↔ ∃ i, i < n ∧ p i = true :=
  ⟨fun h => ⟨_, h, zf_hit p n h⟩, fun ⟨i, h1, h2⟩ => by have := zf_lt h1 h2; omega⟩
def zg_b (a : Nat → Nat → Bool) (t : Nat) : Nat → Nat → Bool
  | 0, x => decide (x = t)
  | k + 1, x => zg_b a t k x || decide (zf (fun y => zg_b a t k y && a y x) 8 < 8)
def zg_d (a : Nat → Nat → Bool) (t x : Nat) : Nat := zf (fun k => zg_b a t k x) 8
def zg_n (a : Nat → Nat → Bool) (t x : Nat) : Nat := if 0 < zg_d a t x ∧ zg_d a t x < 8 then zf (fun y => zg_b a t (zg_d a t x - 1) y && a y x) 8 else x
section ZG
variable {a : Nat → Nat → Bool} {t : Nat}
theorem zg_up {k x : Nat} (h : zg_b a t k x = true) : zg_b a t (k + 1) x = true := by unfold zg_b; rw [h]; rfl
theorem zg_ups {k x : Nat} (h : zg_b a t k x = true) : ∀ j, zg_b a t (k + j) x = true
  | 0 => h
  | j + 1 => zg_up (zg_ups h j)
theorem zg_le {k j x : Nat} (hkj : k ≤ j) (h : zg_b a t k x = true) : zg_b a t j x = true := by
  have := zg_ups h (j - k)
  rwa [show k + (j - k) = j by omega] at this
theorem zg_step {k x y : Nat} (hy : y < 8) (h : zg_b a t k y = true) (ha : a y x = true) : zg_b a t (k + 1) x = true := by
  unfold zg_b
  have : zf (fun y => zg_b a t k y && a y x) 8 < 8 := zf_ex.mpr ⟨y, hy, by rw [h, ha]; rfl⟩
  simp [this]
theorem zg_back {k x : Nat} (h : zg_b a t (k + 1) x = true) (hn : zg_b a t k x = false) : ∃ y, y < 8 ∧ zg_b a t k y = true ∧ a y x = true := by
  unfold zg_b at h
  rw [hn, Bool.false_or, decide_eq_true_eq] at h
  obtain ⟨y, h1, h2⟩ := zf_ex.mp h
  rw [Bool.and_eq_true] at h2
  exact ⟨y, h1, h2.1, h2.2⟩
theorem zg_cong {k j : Nat} (h : ∀ x, x < 8 → zg_b a t k x = zg_b a t j x) : ∀ x, x < 8 → zg_b a t (k + 1) x = zg_b a t (j + 1) x := by
  intro x hx
  unfold zg_b
  rw [h x hx, zf_congr (q := fun y => zg_b a t j y && a y x) (fun y hy => by rw [h y hy])]
theorem zg_stab {k : Nat} (h : ∀ x, x < 8 → zg_b a t (k + 1) x = zg_b a t k x) : ∀ j x, x < 8 → zg_b a t (k + j) x = zg_b a t k x
  | 0, _, _ => rfl
  | j + 1, x, hx => by
    have h1 := zg_cong (k := k + j) (j := k) (fun y hy => zg_stab h j y hy) x hx
    rw [show k + (j + 1) = k + j + 1 by omega, h1, h x hx]
/-- how many of those below n -/
def zc (p : Nat → Bool) : Nat → Nat
  | 0 => 0
  | n + 1 => zc p n + (if p n = true then 1 else 0)
theorem zc_le (p : Nat → Bool) : ∀ n, zc p n ≤ n
  | 0 => Nat.le_refl _
  | n + 1 => by
    have := zc_le p n
    unfold zc
    split <;> omega
theorem zc_mono {p q : Nat → Bool} : ∀ {n : Nat}, (∀ i, i < n → p i = true → q i = true) → zc p n ≤ zc q n
  | 0, _ => Nat.le_refl _
  | n + 1, h => by
    have ih := zc_mono (n := n) (fun i hi => h i (by omega))
    unfold zc
    by_cases hp : p n = true
    · rw [if_pos hp, if_pos (h n (by omega) hp)]; omega
    · rw [if_neg hp]; split <;> omega
theorem zc_more {p q : Nat → Bool} : ∀ {n : Nat}, (∀ i, i < n → p i = true → q i = true) → (∃ i, i < n ∧ p i = false ∧ q i = true) → zc p n + 1 ≤ zc q n
  | 0, _, ⟨i, h, _⟩ => absurd h (Nat.not_lt_zero i)
  | n + 1, h, ⟨i, h1, h2, h3⟩ => by
    unfold zc
    by_cases hi : i = n
    · subst hi
      have ih := zc_mono (n := i) (fun j hj => h j (by omega))
      rw [if_neg (by rw [h2]; decide), if_pos h3]; omega
    · have ih := zc_more (n := n) (fun j hj => h j (by omega)) ⟨i, by omega, h2, h3⟩
      by_cases hp : p n = true
      · rw [if_pos hp, if_pos (h n (by omega) hp)]; omega
      · rw [if_neg hp]; split <;> omega
theorem zg_grow (ht : t < 8) : ∀ k, (∃ j, j ≤ k ∧ ∀ x, x < 8 → zg_b a t (j + 1) x = zg_b a t j x) ∨ k + 2 ≤ zc (zg_b a t (k + 1)) 8 := by
  have more : ∀ k, (∀ x, x < 8 → zg_b a t (k + 1) x = zg_b a t k x) ∨ zc (zg_b a t k) 8 + 1 ≤ zc (zg_b a t (k + 1)) 8 := by
    intro k
    by_cases h : ∃ x, x < 8 ∧ zg_b a t k x = false ∧ zg_b a t (k + 1) x = true
    · exact Or.inr (zc_more (fun i _ hi => zg_up hi) h)
    · refine Or.inl (fun x hx => ?_)
      cases h1 : zg_b a t (k + 1) x with
      | false =>
        cases h2 : zg_b a t k x with
        | false => rfl
        | true => rw [zg_up h2] at h1; cases h1
      | true =>
        cases h2 : zg_b a t k x with
        | false => exact absurd ⟨x, hx, h2, h1⟩ h
        | true => rfl
  have h0 : 1 ≤ zc (zg_b a t 0) 8 := by
    have := zc_more (p := fun _ => false) (q := zg_b a t 0) (n := 8) (fun i _ h => by cases h) ⟨t, ht, rfl, by simp [zg_b]⟩
    omega
  intro k
  induction k with
  | zero =>
    rcases more 0 with h | h
    · exact Or.inl ⟨0, Nat.le_refl _, h⟩
    · exact Or.inr (by omega)
  | succ k ih =>
    rcases ih with ⟨j, h1, h2⟩ | ih
    · exact Or.inl ⟨j, by omega, h2⟩
    · rcases more (k + 1) with h | h
      · exact Or.inl ⟨k + 1, Nat.le_refl _, h⟩
      · exact Or.inr (by omega)
theorem zg_7 (ht : t < 8) {j x : Nat} (hx : x < 8) (h : zg_b a t j x = true) : zg_b a t 7 x = true := by
  rcases zg_grow (a := a) ht 7 with ⟨i, h1, h2⟩ | h1
  · by_cases hj : j ≤ 7
    · exact zg_le hj h
    · have h3 := zg_stab h2 (j - i) x hx
      rw [show i + (j - i) = j by omega] at h3
      rw [h3] at h
      exact zg_le h1 h
  · have := zc_le (zg_b a t (7 + 1)) 8
    omega
theorem zg_d_eq {k x : Nat} (hk : k < 8) (h : zg_b a t k x = true) (hm : ∀ j, j < k → zg_b a t j x = false) : zg_d a t x = k := zf_eq hk h hm
theorem zg_d_lt {x : Nat} (h : zg_d a t x < 8) : zg_b a t (zg_d a t x) x = true := zf_hit _ _ h
theorem zg_d_min {x j : Nat} (h : j < zg_d a t x) : zg_b a t j x = false := zf_min _ _ j h
theorem zg_d_le (x : Nat) : zg_d a t x ≤ 8 := zf_le _ _
theorem zg_d_at {k x : Nat} (hk : k < 8) (h : zg_b a t k x = true) : zg_d a t x ≤ k := zf_lt hk h
theorem zg_d0 (t : Nat) : zg_d a t t = 0 := zf_eq (by decide) (by simp [zg_b]) (fun i hi => absurd hi (Nat.not_lt_zero i))
theorem zg_d_0 {x : Nat} (h : zg_d a t x = 0) : x = t := by
  have := zg_d_lt (a := a) (t := t) (x := x) (by omega)
  rw [h] at this
  simpa [zg_b] using this
/-- the next room: beside, by one nearer, the least such -/
theorem zg_n_spec {x : Nat} (h0 : 0 < zg_d a t x) (h8 : zg_d a t x < 8) : zg_n a t x < 8 ∧ a (zg_n a t x) x = true ∧ zg_d a t (zg_n a t x) = zg_d a t x - 1 ∧ ∀ y, y < zg_n a t x → ¬ (a y x = true ∧ zg_d a t y = zg_d a t x - 1) := by
  have hb := zg_d_lt h8
  have hm := zg_d_min (a := a) (t := t) (x := x) (j := zg_d a t x - 1) (by omega)
  have hb' : zg_b a t (zg_d a t x - 1 + 1) x = true := by rw [show zg_d a t x - 1 + 1 = zg_d a t x by omega]; exact hb
  obtain ⟨y, hy, h1, h2⟩ := zg_back hb' hm
  have hn : zg_n a t x = zf (fun y => zg_b a t (zg_d a t x - 1) y && a y x) 8 := if_pos ⟨h0, h8⟩
  have hlt : zf (fun y => zg_b a t (zg_d a t x - 1) y && a y x) 8 < 8 := zf_ex.mpr ⟨y, hy, by rw [h1, h2]; rfl⟩
  have hh := zf_hit _ _ hlt
  rw [← hn] at hlt hh
  rw [Bool.and_eq_true] at hh
  refine ⟨hlt, hh.2, ?_, fun z hz hq => ?_⟩
  · have hle := zg_d_at (by omega) hh.1
    by_cases hq : zg_d a t (zg_n a t x) < zg_d a t x - 1
    · have h3 := zg_step hlt (zg_d_lt (a := a) (t := t) (x := zg_n a t x) (by omega)) hh.2
      have h4 := zg_d_at (by omega) h3
      omega
    · omega
  · have h3 := zf_min (fun y => zg_b a t (zg_d a t x - 1) y && a y x) 8 z (by rw [← hn]; exact hz)
    have h4 := zg_d_lt (a := a) (t := t) (x := z) (by omega)
    rw [hq.2] at h4
    rw [h4, hq.1] at h3
    cases h3
theorem zg_n_0 {x : Nat} (h : zg_d a t x = 0 ∨ zg_d a t x = 8) : zg_n a t x = x := if_neg (by omega)
theorem zg_n_lt {x : Nat} (hx : x < 8) : zg_n a t x < 8 := by
  by_cases h : 0 < zg_d a t x ∧ zg_d a t x < 8
  · exact (zg_n_spec h.1 h.2).1
  · have := zg_d_le (a := a) (t := t) x
    rw [zg_n_0 (by omega)]
    exact hx
/-- what the search over growing rounds finds at round k + 1 -/
theorem zg_new {k x : Nat} (hk : k < 7) (h1 : zg_b a t k x = false) (h2 : zg_b a t (k + 1) x = true) : zg_d a t x = k + 1 ∧ zg_n a t x = zf (fun y => zg_b a t k y && a y x) 8 := by
  have hd : zg_d a t x = k + 1 := zg_d_eq (by omega) h2 (fun j hj => by
    cases h : zg_b a t j x with
    | false => rfl
    | true => rw [zg_le (by omega) h] at h1; cases h1)
  refine ⟨hd, ?_⟩
  unfold zg_n
  rw [if_pos (by omega), hd]
  rfl
theorem zg_out {k x : Nat} (hx : x < 8) (hs : ∀ y, y < 8 → zg_b a t (k + 1) y = zg_b a t k y) (h : zg_b a t k x = false) : zg_d a t x = 8 := by
  refine zf_none (fun j _ => ?_)
  cases hj : zg_b a t j x with
  | false => rfl
  | true =>
    by_cases hjk : j ≤ k
    · rw [zg_le hjk hj] at h; cases h
    · have h3 := zg_stab hs (j - k) x hx
      rw [show k + (j - k) = j by omega, hj, h] at h3
      cases h3
end ZG
