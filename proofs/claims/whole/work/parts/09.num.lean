/-! ===== numbers: small natural numbers as ints, masks ===== -/
theorem zn_lt {a b : Nat} (ha : a < 2 ^ 31) (hb : b < 2 ^ 31) : (nI a < nI b) = (a < b) := propext (nI_ltI ha hb)
theorem zn_le {a b : Nat} (ha : a < 2 ^ 31) (hb : b < 2 ^ 31) : (nI a ≤ nI b) = (a ≤ b) := propext (nI_leI ha hb)
theorem zn_eq {a b : Nat} (ha : a < 2 ^ 31) (hb : b < 2 ^ 31) : (nI a = nI b) = (a = b) := propext (nI_eq ha hb)
theorem zn_sub {a b : Nat} (h : b ≤ a) : nI a - nI b = nI (a - b) := pk_sub h
theorem zn_or (a b : Nat) : nI a ||| nI b = nI (a ||| b) := by
  apply Int32.toBitVec_inj.mp
  rw [Int32.toBitVec_or]
  show BitVec.ofNat 32 a ||| BitVec.ofNat 32 b = BitVec.ofNat 32 (a ||| b)
  apply BitVec.eq_of_getLsbD_eq
  intro i hi
  simp [BitVec.getLsbD_ofNat, hi, Nat.testBit_or]
theorem zn_and (a b : Nat) : nI a &&& nI b = nI (a &&& b) := by
  apply Int32.toBitVec_inj.mp
  rw [Int32.toBitVec_and]
  show BitVec.ofNat 32 a &&& BitVec.ofNat 32 b = BitVec.ofNat 32 (a &&& b)
  apply BitVec.eq_of_getLsbD_eq
  intro i hi
  simp [BitVec.getLsbD_ofNat, hi, Nat.testBit_and]
theorem zn_s31 : ∀ n, n < 32 → ((nI n &&& 31).toBitVec.smod 32).toNat = n := by decide +kernel
theorem zn_shl {a k : Nat} (hk : k < 31) (h : a * 2 ^ k < 2 ^ 32) : nI a <<< (nI k &&& 31) = nI (a * 2 ^ k) := pk_shlN _ k (zn_s31 k (by omega)) h
theorem zn_1shl {k : Nat} (hk : k < 31) : nI 1 <<< (nI k &&& 31) = nI (2 ^ k) := by
  have h : 1 * 2 ^ k < 2 ^ 32 := by
    have := Nat.pow_lt_pow_right (a := 2) (by decide) (show k < 32 by omega)
    omega
  rw [zn_shl hk h, Nat.one_mul]
theorem zn_shr {a k : Nat} (ha : a < 2 ^ 31) (hk : k < 32) : nI a >>> (nI k &&& 31) = nI (a / 2 ^ k) := pk_shrN ha _ k (zn_s31 k hk)
theorem zn_bit {a k : Nat} (ha : a < 2 ^ 31) (hk : k < 32) : (nI a >>> (nI k &&& 31)) &&& nI 1 = nI (if a.testBit k then 1 else 0) := by
  rw [zn_shr ha hk, zn_and]
  congr 1
  rw [Nat.testBit_eq_decide_div_mod_eq, Nat.and_one_is_mod]
  by_cases h : a / 2 ^ k % 2 = 1
  · simp [h]
  · simp [h]; omega
theorem zn_or_lt {a b k : Nat} (ha : a < 2 ^ k) (hb : b < 2 ^ k) : a ||| b < 2 ^ k := Nat.or_lt_two_pow ha hb
theorem zn_pow_lt {a k : Nat} (h : a < k) : 2 ^ a < 2 ^ k := Nat.pow_lt_pow_right (by decide) h
theorem zn_tb_lt {m k : Nat} (h : ∀ i, m.testBit i = true → i < k) : m < 2 ^ k := by
  apply Nat.lt_pow_two_of_testBit
  intro i hi
  cases hb : m.testBit i with
  | false => rfl
  | true => exact absurd (h i hb) (by omega)
/-- an int in a range is a small number -/
theorem zn_of {x : Int32} {m : Nat} (hm : m < 2 ^ 31) (h1 : 0 ≤ x) (h2 : x ≤ nI m) : ∃ n, n ≤ m ∧ x = nI n :=
  nI_of2 (M := nI m) (n := m) (nI_toInt hm) (Int32.not_lt.mpr h1) h2
theorem zn_neg1 {n : Nat} (h : n < 2 ^ 31) : ¬ nI n = -1 := by
  intro e
  have h1 := congrArg Int32.toInt e
  rw [nI_toInt h] at h1
  have : (-1 : Int32).toInt = -1 := by decide
  omega
theorem zn_notneg {n : Nat} (h : n < 2 ^ 31) : ¬ nI n < 0 := nI_pos h
theorem zn_0le {n : Nat} (h : n < 2 ^ 31) : 0 ≤ nI n := Int32.not_lt.mp (nI_pos h)
/-- the set of those below n of which p holds, as bits -/
def zm (p : Nat → Bool) : Nat → Nat
  | 0 => 0
  | n + 1 => zm p n ||| (if p n then 2 ^ n else 0)
theorem zm_tb (p : Nat → Bool) : ∀ (n i : Nat), (zm p n).testBit i = (decide (i < n) && p i)
  | 0, i => by simp [zm]
  | n + 1, i => by
    unfold zm
    rw [Nat.testBit_or, zm_tb p n i]
    by_cases hp : p n = true
    · rw [if_pos hp, Nat.testBit_two_pow]
      by_cases h : n = i
      · subst h; simp [hp]
      · have : (i < n + 1) ↔ (i < n) := by omega
        simp [h, this]
    · rw [if_neg hp]
      by_cases h : n = i
      · subst h; simp [hp]
      · have : (i < n + 1) ↔ (i < n) := by omega
        simp [this]
theorem zm_lt (p : Nat → Bool) (n : Nat) : zm p n < 2 ^ n := zn_tb_lt (fun i h => by
  rw [zm_tb] at h
  simp at h
  exact h.1)
theorem zm_congr {p q : Nat → Bool} : ∀ {n : Nat}, (∀ i, i < n → p i = q i) → zm p n = zm q n
  | 0, _ => rfl
  | n + 1, h => by
    unfold zm
    rw [zm_congr (n := n) (fun i hi => h i (by omega)), h n (by omega)]
theorem zm_0 {p : Nat → Bool} {n : Nat} : zm p n = 0 ↔ ∀ i, i < n → p i = false := by
  constructor
  · intro h i hi
    have := zm_tb p n i
    rw [h] at this
    simpa [hi] using this.symm
  · intro h
    apply Nat.eq_of_testBit_eq
    intro i
    rw [zm_tb]
    by_cases hi : i < n
    · simp [hi, h i hi]
    · simp [hi]
