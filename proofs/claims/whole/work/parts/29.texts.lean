/-! ===== texts: what they tell; the class's reading ===== -/
def zfig (x : Nat) : Bool := decide (48 ≤ x) && decide (x < 56)
def zsrt (x : Nat) : Nat := if x = 103 then 1 else if x = 99 then 2 else if x = 104 then 3 else 0
def zft1 (b : Nat → Nat) (i : Nat) : Bool := zfig (b i) && (decide (i % 3 = 0) || !decide (b i = b (i - 1)))
def zok1 (b : Nat → Nat) (i : Nat) : Bool := if i % 3 = 2 then decide (b i = 59) else zft1 b i
def zft6 (b : Nat → Nat) (i : Nat) : Bool := if i % 4 = 0 then !decide (zsrt (b i) = 0) else zfig (b i)
def zok6 (b : Nat → Nat) (i : Nat) : Bool := if i % 4 = 3 then decide (b i = 59) else zft6 b i
def ztf (ok : Nat → Bool) (p n : Nat) : Nat := if zf (fun i => !ok i) n < n then zf (fun i => !ok i) n + 1 else if n = 0 ∨ n % p = p - 1 then 0 else n + 1
def ztm (ok : Nat → Bool) (p n : Nat) : Nat := if ztf ok p n = 0 then (n + 1) / p else 0
theorem ztf_at {ok : Nat → Bool} {p n q : Nat} (hq : q < n) (h : ok q = false) (hm : ∀ i, i < q → ok i = true) : ztf ok p n = q + 1 := by
  have e : zf (fun i => !ok i) n = q := zf_eq hq (by show (!ok q) = true; rw [h]; rfl) (fun i hi => by show (!ok i) = false; rw [hm i hi]; rfl)
  unfold ztf
  rw [e, if_pos hq]
theorem ztf_all {ok : Nat → Bool} {p n : Nat} (hm : ∀ i, i < n → ok i = true) : ztf ok p n = if n = 0 ∨ n % p = p - 1 then 0 else n + 1 := by
  have e : zf (fun i => !ok i) n = n := zf_none (fun i hi => by show (!ok i) = false; rw [hm i hi]; rfl)
  unfold ztf
  rw [e, if_neg (Nat.lt_irrefl n)]
theorem ztf_0 {ok : Nat → Bool} {p n : Nat} (h : ztf ok p n = 0) : (∀ i, i < n → ok i = true) ∧ (n = 0 ∨ n % p = p - 1) := by
  unfold ztf at h
  by_cases h1 : zf (fun i => !ok i) n < n
  · rw [if_pos h1] at h; omega
  · rw [if_neg h1] at h
    refine ⟨fun i hi => ?_, ?_⟩
    · have hl := zf_le (fun i => !ok i) n
      have := zf_min (fun i => !ok i) n i (by omega)
      cases ho : ok i with
      | true => rfl
      | false => rw [ho] at this; cases this
    · by_cases h2 : n = 0 ∨ n % p = p - 1
      · exact h2
      · rw [if_neg h2] at h; omega
theorem ztf_le {ok : Nat → Bool} {p n : Nat} : ztf ok p n ≤ n + 1 := by
  unfold ztf
  have hl := zf_le (fun i => !ok i) n
  split
  · omega
  · split <;> omega
theorem ztm_1 {ok : Nat → Bool} {n d : Nat} (h : d < ztm ok 3 n) : 3 * d + 1 < n ∧ ∀ i, i < n → ok i = true := by
  unfold ztm at h
  by_cases h1 : ztf ok 3 n = 0
  · rw [if_pos h1] at h; exact ⟨by omega, (ztf_0 h1).1⟩
  · rw [if_neg h1] at h; omega
theorem ztm_6 {ok : Nat → Bool} {n d : Nat} (h : d < ztm ok 4 n) : 4 * d + 2 < n ∧ ∀ i, i < n → ok i = true := by
  unfold ztm at h
  by_cases h1 : ztf ok 4 n = 0
  · rw [if_pos h1] at h; exact ⟨by omega, (ztf_0 h1).1⟩
  · rw [if_neg h1] at h; omega
theorem ztm_le {ok : Nat → Bool} {p n : Nat} : ztm ok p n ≤ (n + 1) / p := by
  unfold ztm
  split
  · exact Nat.le_refl _
  · exact Nat.zero_le _
def zo1 (b : Nat → Nat) (d : Nat) : Nat := b (3 * d) - 48
def zo2 (b : Nat → Nat) (d : Nat) : Nat := b (3 * d + 1) - 48
def zps (b : Nat → Nat) (p : Nat) : Nat := zsrt (b (4 * p)) - 1
def zpt (b : Nat → Nat) (p : Nat) : Nat := b (4 * p + 1) - 48
def zpb (b : Nat → Nat) (p : Nat) : Nat := b (4 * p + 2) - 48
theorem zfig_iff {x : Nat} : zfig x = true ↔ 48 ≤ x ∧ x < 56 := by unfold zfig; simp
theorem ztm_1f {b : Nat → Nat} {n d : Nat} (h : d < ztm (zok1 b) 3 n) : 3 * d + 1 < n ∧ zfig (b (3 * d)) = true ∧ zfig (b (3 * d + 1)) = true := by
  obtain ⟨h1, h2⟩ := ztm_1 h
  have a := h2 (3 * d) (by omega)
  have c := h2 (3 * d + 1) (by omega)
  unfold zok1 at a c
  rw [if_neg (by omega)] at a c
  unfold zft1 at a c
  rw [Bool.and_eq_true] at a c
  exact ⟨h1, a.1, c.1⟩
theorem ztm_6f {b : Nat → Nat} {n d : Nat} (h : d < ztm (zok6 b) 4 n) : 4 * d + 2 < n ∧ ¬ zsrt (b (4 * d)) = 0 ∧ zfig (b (4 * d + 1)) = true ∧ zfig (b (4 * d + 2)) = true := by
  obtain ⟨h1, h2⟩ := ztm_6 h
  have a := h2 (4 * d) (by omega)
  have c := h2 (4 * d + 1) (by omega)
  have e := h2 (4 * d + 2) (by omega)
  unfold zok6 at a c e
  rw [if_neg (by omega)] at a c e
  unfold zft6 at a c e
  rw [if_pos (by omega)] at a
  rw [if_neg (by omega)] at c e
  exact ⟨h1, by simpa using a, c, e⟩
theorem zsrt_le (x : Nat) : zsrt x ≤ 3 := by unfold zsrt; split; omega; split; omega; split <;> omega
def zTxt (c lim p : Nat) (b : Nat → Nat) (n : Nat) (μ : zq_Me) : Prop := n ≤ lim ∧ μ.1 c 1 = nI lim ∧ μ.1 c 2 = nI p ∧ μ.1 c 3 = nI n ∧ ∀ i, i < n → μ.1 (c + 1) i = nI (b i) ∧ b i < 256
theorem zTxt.sl {c lim p n : Nat} {b : Nat → Nat} {μ μ1 : zq_Me} (h : zTxt c lim p b n μ) (hc : ∀ i, i < 4 → μ1.1 c i = μ.1 c i) (hb : μ1.1 (c + 1) = μ.1 (c + 1)) : zTxt c lim p b n μ1 :=
  ⟨h.1, by rw [hc 1 (by decide)]; exact h.2.1, by rw [hc 2 (by decide)]; exact h.2.2.1, by rw [hc 3 (by decide)]; exact h.2.2.2.1, by rw [hb]; exact h.2.2.2.2⟩
set_option maxRecDepth 100000 in
set_option maxHeartbeats 4000000 in
theorem zs_isFigure1 {b : Nat → Nat} {n : Nat} {μ : zq_Me} (hT : zTxt 1 35 3 b n μ) {i : Nat} (hi : i < n) : zq_Wp zn_X6_isFigure 0 [(0, .ref 1), (1, .int (nI i))] [] μ (zq_pi (zB (zfig (b i))) μ) := by
  have hn9 := hT.1
  obtain ⟨hb9, hb7⟩ := hT.2.2.2.2 i hi
  refine zq_go zt_X6_isFigure 6 [vp_in (nI i) 35] (if (μ.1 2 ((nI i).toNatClampNeg)) < (nI 48) then 26 else 11) [(0, .ref 1), (1, .int (nI i))] [] μ rfl ⟨zn_in (k := i) rfl (by omega) (by decide), trivial⟩ ?_
  rw [zn_cl (n := i) (by omega), hb9]
  refine zq_ite (fun h4 => ?_) (fun h4 => ?_)
  · rw [zn_lt (by omega) (by omega)] at h4
    refine zq_go zt_X6_isFigure 1 [] 27 [(0, .ref 1), (1, .int (nI i))] [.int (nI 0)] μ rfl trivial ?_
    rw [show zfig (b i) = false from by unfold zfig; rw [decide_eq_false (show ¬ 48 ≤ b i by omega), Bool.false_and]]
    exact zq_retz zt_X6_isFigure rfl (Or.inl rfl) (⟨rfl, rfl⟩)
  · rw [zn_lt (by omega) (by omega)] at h4
    refine zq_go zt_X6_isFigure 6 [vp_in (nI i) 35] (if (nI 56) ≤ (μ.1 2 ((nI i).toNatClampNeg)) then 26 else 22) [(0, .ref 1), (1, .int (nI i))] [] μ rfl ⟨zn_in (k := i) rfl (by omega) (by decide), trivial⟩ ?_
    rw [zn_cl (n := i) (by omega), hb9]
    refine zq_ite (fun h12 => ?_) (fun h12 => ?_)
    · rw [zn_le (by omega) (by omega)] at h12
      refine zq_go zt_X6_isFigure 1 [] 27 [(0, .ref 1), (1, .int (nI i))] [.int (nI 0)] μ rfl trivial ?_
      rw [show zfig (b i) = false from by unfold zfig; rw [decide_eq_false (show ¬ b i < 56 by omega), Bool.and_false]]
      exact zq_retz zt_X6_isFigure rfl (Or.inl rfl) (⟨rfl, rfl⟩)
    · rw [zn_le (by omega) (by omega)] at h12
      refine zq_go zt_X6_isFigure 2 [] 27 [(0, .ref 1), (1, .int (nI i))] [.int (nI 1)] μ rfl trivial ?_
      rw [show zfig (b i) = true from zfig_iff.mpr ⟨by omega, by omega⟩]
      exact zq_retz zt_X6_isFigure rfl (Or.inr rfl) (⟨rfl, rfl⟩)
set_option maxRecDepth 100000 in
set_option maxHeartbeats 4000000 in
theorem zs_figure1 {b : Nat → Nat} {n : Nat} {μ : zq_Me} (hT : zTxt 1 35 3 b n μ) {i : Nat} (hi : i < n) (hf : zfig (b i) = true) : zq_Wp zn_X6_figure 0 [(0, .ref 1), (1, .int (nI i))] [] μ (zq_pi (nI (b i - 48)) μ) := by
  have hn9 := hT.1
  obtain ⟨hb9, hb7⟩ := hT.2.2.2.2 i hi
  have h48 := (zfig_iff.mp hf).1
  refine zq_go zt_X6_figure 6 [vp_in (nI i) 35] 9 [(0, .ref 1), (1, .int (nI i))] [.int ((μ.1 2 ((nI i).toNatClampNeg)) - (nI 48))] μ rfl ⟨zn_in (k := i) rfl (by omega) (by decide), trivial⟩ ?_
  rw [zn_cl (n := i) (by omega), hb9, zn_sub (show 48 ≤ (b i) by omega)]
  exact zq_retn zt_X6_figure rfl rfl (⟨rfl, rfl⟩)
set_option maxRecDepth 100000 in
set_option maxHeartbeats 4000000 in
theorem zs_fits1 {b : Nat → Nat} {n : Nat} {μ : zq_Me} (hT : zTxt 1 35 3 b n μ) {i : Nat} (hi : i < n) : zq_Wp zn_X0_fits 0 [(0, .ref 1), (1, .int (nI i)), (2, .int (nI (i % 3)))] [] μ (zq_pi (zB (zft1 b i)) μ) := by
  have hn9 := hT.1
  obtain ⟨hb9, hb7⟩ := hT.2.2.2.2 i hi
  refine zq_go zt_X0_fits 2 [] 2 [(0, .ref 1), (1, .int (nI i)), (2, .int (nI (i % 3)))] [.int (nI i), .ref 1] μ rfl trivial ?_
  refine zq_call zt_X0_fits [.ref 1, .int (nI i)] [] (zs_isFigure1 hT hi) rfl rfl ?_
  rintro _ _ ⟨rfl, rfl⟩
  refine zq_go zt_X0_fits 1 [] (if (zB (zfig (b i))) = 0 then 33 else 8) [(0, .ref 1), (1, .int (nI i)), (2, .int (nI (i % 3)))] [] μ rfl trivial ?_
  refine zq_ite (fun h6 => ?_) (fun h6 => ?_)
  · have q1 := zB_f h6
    refine zq_go zt_X0_fits 1 [] 34 [(0, .ref 1), (1, .int (nI i)), (2, .int (nI (i % 3)))] [.int (nI 0)] μ rfl trivial ?_
    rw [show zft1 b i = false from by unfold zft1; rw [q1, Bool.false_and]]
    exact zq_retz zt_X0_fits rfl (Or.inl rfl) (⟨rfl, rfl⟩)
  · have q1 := zB_t h6
    refine zq_go zt_X0_fits 2 [] (if (nI (i % 3)) = 0 then 29 else 12) [(0, .ref 1), (1, .int (nI i)), (2, .int (nI (i % 3)))] [] μ rfl trivial ?_
    refine zq_ite (fun h13 => ?_) (fun h13 => ?_)
    · have q2 : i % 3 = 0 := by
        rw [show (0 : Int32) = nI 0 from rfl, zn_eq (by omega) (by decide)] at h13
        exact h13
      refine zq_go zt_X0_fits 2 [] 34 [(0, .ref 1), (1, .int (nI i)), (2, .int (nI (i % 3)))] [.int (nI 1)] μ rfl trivial ?_
      rw [show zft1 b i = true from by unfold zft1; rw [q1, decide_eq_true q2]; rfl]
      exact zq_retz zt_X0_fits rfl (Or.inr rfl) (⟨rfl, rfl⟩)
    · have q2 : ¬ i % 3 = 0 := by
        rw [show (0 : Int32) = nI 0 from rfl, zn_eq (by omega) (by decide)] at h13
        exact h13
      have q3 : 1 ≤ i := by omega
      obtain ⟨hb8, hb6⟩ := hT.2.2.2.2 (i - 1) (by omega)
      refine zq_go zt_X0_fits 11 [vp_in (nI i) 35, vp_in ((nI i) - (nI 1)) 35] (if (μ.1 2 ((nI i).toNatClampNeg)) = (μ.1 2 (((nI i) - (nI 1)).toNatClampNeg)) then 33 else 29) [(0, .ref 1), (1, .int (nI i)), (2, .int (nI (i % 3)))] [] μ rfl ⟨zn_in (k := i) rfl (by omega) (by decide), ⟨zn_in (k := i - 1) (by rw [zn_sub (show 1 ≤ i by omega)]) (by omega) (by decide), trivial⟩⟩ ?_
      rw [zn_cl (n := i) (by omega), hb9, zn_sub (show 1 ≤ i by omega), zn_cl (n := i - 1) (by omega), hb8]
      refine zq_ite (fun h27 => ?_) (fun h27 => ?_)
      · rw [zn_eq (by omega) (by omega)] at h27
        refine zq_go zt_X0_fits 1 [] 34 [(0, .ref 1), (1, .int (nI i)), (2, .int (nI (i % 3)))] [.int (nI 0)] μ rfl trivial ?_
        rw [show zft1 b i = false from by unfold zft1; rw [q1, decide_eq_false q2, decide_eq_true h27]; rfl]
        exact zq_retz zt_X0_fits rfl (Or.inl rfl) (⟨rfl, rfl⟩)
      · rw [zn_eq (by omega) (by omega)] at h27
        refine zq_go zt_X0_fits 2 [] 34 [(0, .ref 1), (1, .int (nI i)), (2, .int (nI (i % 3)))] [.int (nI 1)] μ rfl trivial ?_
        rw [show zft1 b i = true from by unfold zft1; rw [q1, decide_eq_false q2, decide_eq_false h27]; rfl]
        exact zq_retz zt_X0_fits rfl (Or.inr rfl) (⟨rfl, rfl⟩)
set_option maxRecDepth 100000 in
set_option maxHeartbeats 4000000 in
theorem zs_firstFault1_l {b : Nat → Nat} {n : Nat} {μ : zq_Me} (hT : zTxt 1 35 3 b n μ) : ∀ (j i : Nat), i + j = n → (∀ q, q < i → zok1 b q = true) → zq_Wp zn_X6_firstFault 2 [(0, .ref 1), (1, .int (nI i))] [] μ (zq_pi (zdn (ztf (zok1 b) 3 n)) μ) := by
  intro j
  induction j with
  | zero =>
    intro i hij hm
    have hn9 := hT.1
    have he9 : i = n := by omega
    have ha := ztf_all (ok := zok1 b) (p := 3) (n := n) (fun q hq => hm q (by omega))
    refine zq_go zt_X6_firstFault 4 [] (if (μ.1 1 3) ≤ (nI i) then 58 else 10) [(0, .ref 1), (1, .int (nI i))] [] μ rfl trivial ?_
    rw [hT.2.2.2.1]
    rw [if_pos (by rw [zn_le (by omega) (by omega)]; omega)]
    refine zq_go zt_X6_firstFault 3 [] (if (μ.1 1 3) = 0 then 83 else 65) [(0, .ref 1), (1, .int (nI i))] [] μ rfl trivial ?_
    rw [hT.2.2.2.1]
    refine zq_ite (fun h12 => ?_) (fun h12 => ?_)
    · have q0 : n = 0 := by
        rw [show (0 : Int32) = nI 0 from rfl, zn_eq (by omega) (by decide)] at h12
        exact h12
      refine zq_go zt_X6_firstFault 2 [] 91 [(0, .ref 1), (1, .int (nI i))] [.int (-1)] μ rfl trivial ?_
      rw [if_pos (Or.inl q0)] at ha
      rw [ha]
      exact zq_retn zt_X6_firstFault rfl rfl (⟨rfl, rfl⟩)
    · have q0 : ¬ n = 0 := by
        rw [show (0 : Int32) = nI 0 from rfl, zn_eq (by omega) (by decide)] at h12
        exact h12
      refine zq_go zt_X6_firstFault 10 [¬ (μ.1 1 2) = 0] (if ¬ ((μ.1 1 3) - (μ.1 1 3) / (μ.1 1 2) * (μ.1 1 2)) = ((μ.1 1 2) - (nI 1)) then 87 else 83) [(0, .ref 1), (1, .int (nI i))] [] μ rfl ⟨by rw [hT.2.2.1]; decide, trivial⟩ ?_
      rw [hT.2.2.2.1, hT.2.2.1, zn_sub (show 1 ≤ 3 by omega)]
      rw [pk_rem (a := n) (d := 3) (by omega) (by decide) (by decide)]
      refine zq_ite (fun h26 => ?_) (fun h26 => ?_)
      · rw [zn_eq (by omega) (by decide)] at h26
        rw [if_neg (show ¬ (n = 0 ∨ n % 3 = 3 - 1) by omega)] at ha
        refine zq_go zt_X6_firstFault 2 [] 91 [(0, .ref 1), (1, .int (nI i))] [.int (μ.1 1 3)] μ rfl trivial ?_
        rw [hT.2.2.2.1]
        rw [ha]
        exact zq_retn zt_X6_firstFault rfl rfl (⟨rfl, rfl⟩)
      · rw [zn_eq (by omega) (by decide)] at h26
        rw [if_pos (show n = 0 ∨ n % 3 = 3 - 1 by omega)] at ha
        refine zq_go zt_X6_firstFault 2 [] 91 [(0, .ref 1), (1, .int (nI i))] [.int (-1)] μ rfl trivial ?_
        rw [ha]
        exact zq_retn zt_X6_firstFault rfl rfl (⟨rfl, rfl⟩)
  | succ j ih =>
    intro i hij hm
    have hn9 := hT.1
    have hi : i < n := by omega
    obtain ⟨hb9, hb7⟩ := hT.2.2.2.2 i hi
    refine zq_go zt_X6_firstFault 4 [] (if (μ.1 1 3) ≤ (nI i) then 58 else 10) [(0, .ref 1), (1, .int (nI i))] [] μ rfl trivial ?_
    rw [hT.2.2.2.1]
    rw [if_neg (by rw [zn_le (by omega) (by omega)]; omega)]
    refine zq_go zt_X6_firstFault 11 [¬ (μ.1 1 2) = 0] (if ¬ ((nI i) - (nI i) / (μ.1 1 2) * (μ.1 1 2)) = ((μ.1 1 2) - (nI 1)) then 41 else 27) [(0, .ref 1), (1, .int (nI i)), (2, .int ((nI i) - (nI i) / (μ.1 1 2) * (μ.1 1 2)))] [] μ rfl ⟨by rw [hT.2.2.1]; decide, trivial⟩ ?_
    rw [hT.2.2.1, zn_sub (show 1 ≤ 3 by omega)]
    rw [pk_rem (a := i) (d := 3) (by omega) (by decide) (by decide)]
    refine zq_ite (fun h49 => ?_) (fun h49 => ?_)
    · have q2 : ¬ i % 3 = 2 := by
        rw [zn_eq (by omega) (by decide)] at h49
        exact h49
      have q3 : zok1 b i = zft1 b i := if_neg q2
      refine zq_go zt_X6_firstFault 3 [] 44 [(0, .ref 1), (1, .int (nI i)), (2, .int (nI (i % 3)))] [.int (nI (i % 3)), .int (nI i), .ref 1] μ rfl trivial ?_
      refine zq_call zt_X6_firstFault [.ref 1, .int (nI i), .int (nI (i % 3))] [] (zs_fits1 hT hi) rfl rfl ?_
      rintro _ _ ⟨rfl, rfl⟩
      refine zq_go zt_X6_firstFault 1 [] (if ¬ (zB (zft1 b i)) = 0 then 52 else 50) [(0, .ref 1), (1, .int (nI i)), (2, .int (nI (i % 3)))] [] μ rfl trivial ?_
      refine zq_ite (fun h58 => ?_) (fun h58 => ?_)
      · refine zq_go zt_X6_firstFault 2 [] 2 [(0, .ref 1), (1, .int ((nI i) + (nI 1))), (2, .int (nI (i % 3)))] [] μ rfl trivial ?_
        rw [zn_add i 1]
        exact zq_drp [0, 1] _ rfl (ih (i + 1) (by omega) (fun q hq => if h8 : q = i then by rw [h8]; exact (q3.trans (zB_t h58)) else hm q (by omega)))
      · refine zq_go zt_X6_firstFault 1 [] 51 [(0, .ref 1), (1, .int (nI i)), (2, .int (nI (i % 3)))] [.int (nI i)] μ rfl trivial ?_
        rw [ztf_at (p := 3) hi (q3.trans (zB_f (Classical.not_not.mp h58))) hm]
        exact zq_retn zt_X6_firstFault rfl rfl (⟨rfl, rfl⟩)
    · have q2 : i % 3 = 2 := by
        rw [zn_eq (by omega) (by decide)] at h49
        omega
      have q3 : zok1 b i = decide (b i = 59) := if_pos q2
      refine zq_go zt_X6_firstFault 6 [vp_in (nI i) 35] (if (μ.1 2 ((nI i).toNatClampNeg)) = (nI 59) then 52 else 38) [(0, .ref 1), (1, .int (nI i)), (2, .int (nI (i % 3)))] [] μ rfl ⟨zn_in (k := i) rfl (by omega) (by decide), trivial⟩ ?_
      rw [zn_cl (n := i) (by omega), hb9]
      refine zq_ite (fun h71 => ?_) (fun h71 => ?_)
      · rw [zn_eq (by omega) (by decide)] at h71
        refine zq_go zt_X6_firstFault 2 [] 2 [(0, .ref 1), (1, .int ((nI i) + (nI 1))), (2, .int (nI (i % 3)))] [] μ rfl trivial ?_
        rw [zn_add i 1]
        exact zq_drp [0, 1] _ rfl (ih (i + 1) (by omega) (fun q hq => if h8 : q = i then by rw [h8]; exact (q3.trans (decide_eq_true h71)) else hm q (by omega)))
      · rw [zn_eq (by omega) (by decide)] at h71
        refine zq_go zt_X6_firstFault 1 [] 50 [(0, .ref 1), (1, .int (nI i)), (2, .int (nI (i % 3)))] [] μ rfl trivial ?_
        refine zq_go zt_X6_firstFault 1 [] 51 [(0, .ref 1), (1, .int (nI i)), (2, .int (nI (i % 3)))] [.int (nI i)] μ rfl trivial ?_
        rw [ztf_at (p := 3) hi (q3.trans (decide_eq_false h71)) hm]
        exact zq_retn zt_X6_firstFault rfl rfl (⟨rfl, rfl⟩)
set_option maxRecDepth 100000 in
set_option maxHeartbeats 4000000 in
theorem zs_firstFault1 {b : Nat → Nat} {n : Nat} {μ : zq_Me} (hT : zTxt 1 35 3 b n μ) : zq_Wp zn_X6_firstFault 0 [(0, .ref 1)] [] μ (zq_pi (zdn (ztf (zok1 b) 3 n)) μ) := by
  refine zq_go zt_X6_firstFault 2 [] 2 [(0, .ref 1), (1, .int (nI 0))] [] μ rfl trivial ?_
  exact zs_firstFault1_l hT n 0 (by omega) (fun q hq => absurd hq (Nat.not_lt_zero q))
set_option maxRecDepth 100000 in
set_option maxHeartbeats 4000000 in
theorem zs_readThings1_l {Q : zq_Post} {b : Nat → Nat} {n m : Nat} {μ0 : zq_Me} (hT0 : zTxt 1 35 3 b n μ0) (hm0 : μ0.1 1 5 = nI m) (hm9 : ∀ d, d < m → d < ztm (zok1 b) 3 n) (kk : ∀ μ : zq_Me, (zq_fr [3, 4] μ0 μ ∧ ∀ e, e < m → μ.1 3 e = nI (zo1 b e) ∧ μ.1 4 e = nI (zo2 b e)) → zq_Wp zn_X0_readThings 44 [] [] μ Q) : ∀ (j d : Nat) (μ : zq_Me), d + j = m → (zq_fr [3, 4] μ0 μ ∧ ∀ e, e < d → μ.1 3 e = nI (zo1 b e) ∧ μ.1 4 e = nI (zo2 b e)) → zq_Wp zn_X0_readThings 2 [(0, .ref 1), (1, .int (nI d))] [] μ Q := by
  intro j
  induction j with
  | zero =>
    intro d μ hij hI
    have hT := hT0.sl (fun i _ => by rw [hI.1.a (b := 1) (by decide)]) (hI.1.a (b := 2) (by decide))
    have hm : μ.1 1 5 = nI m := by rw [hI.1.a (b := 1) (by decide)]; exact hm0
    have hn9 := hT.1
    have hm8 : m ≤ 12 := Classical.byContradiction (fun h => by have := ztm_1 (hm9 12 (by omega)); omega)
    have he9 : d = m := by omega
    rw [he9] at hI
    refine zq_go zt_X0_readThings 4 [] (if (μ.1 1 5) ≤ (nI d) then 44 else 10) [(0, .ref 1), (1, .int (nI d))] [] μ rfl trivial ?_
    rw [hm]
    rw [if_pos (by rw [zn_le (by omega) (by omega)]; omega)]
    exact zq_drp [] [] rfl (kk μ hI)
  | succ j ih =>
    intro d μ hij hI
    have hT := hT0.sl (fun i _ => by rw [hI.1.a (b := 1) (by decide)]) (hI.1.a (b := 2) (by decide))
    have hm : μ.1 1 5 = nI m := by rw [hI.1.a (b := 1) (by decide)]; exact hm0
    have hn9 := hT.1
    have hm8 : m ≤ 12 := Classical.byContradiction (fun h => by have := ztm_1 (hm9 12 (by omega)); omega)
    have hd9 := ztm_1f (hm9 d (by omega))
    refine zq_go zt_X0_readThings 4 [] (if (μ.1 1 5) ≤ (nI d) then 44 else 10) [(0, .ref 1), (1, .int (nI d))] [] μ rfl trivial ?_
    rw [hm]
    rw [if_neg (by rw [zn_le (by omega) (by omega)]; omega)]
    refine zq_go zt_X0_readThings 7 [] 19 [(0, .ref 1), (1, .int (nI d))] [.int ((nI d) * (nI 3)), .ref 1, .int (nI d), .ref 3] μ rfl trivial ?_
    rw [zn_mul d 3]
    refine zq_call zt_X0_readThings [.ref 1, .int (nI (d * 3))] [.int (nI d), .ref 3] (zs_figure1 hT (show d * 3 < n by omega) (by rw [Nat.mul_comm]; exact hd9.2.1)) rfl rfl ?_
    rintro _ _ ⟨rfl, rfl⟩
    refine zq_go zt_X0_readThings 10 [vp_in (nI d) 12] 34 [(0, .ref 1), (1, .int (nI d))] [.int (((nI d) * (nI 3)) + (nI 1)), .ref 1, .int (nI d), .ref 4] (zq_u1 μ 3 ((nI d).toNatClampNeg) (nI (b (d * 3) - 48))) rfl ⟨zn_in (k := d) rfl (by omega) (by decide), trivial⟩ ?_
    rw [zn_mul d 3, zn_add (d * 3) 1, zn_cl (n := d) (by omega)]
    obtain ⟨μ1, hμ1⟩ : ∃ k, k = (zq_u1 μ 3 d (nI (b (d * 3) - 48))) := ⟨_, rfl⟩
    rw [← hμ1]
    have hT : zTxt 1 35 3 b n μ1 := hT.sl (fun i _ => by rw [hμ1, zq_u1_ne (by decide)]) (by rw [hμ1, zq_u1_ne (by decide)])
    refine zq_call zt_X0_readThings [.ref 1, .int (nI ((d * 3) + 1))] [.int (nI d), .ref 4] (zs_figure1 hT (show d * 3 + 1 < n by omega) (by rw [Nat.mul_comm]; exact hd9.2.2)) rfl rfl ?_
    rintro _ _ ⟨rfl, rfl⟩
    refine zq_go zt_X0_readThings 3 [vp_in (nI d) 12] 2 [(0, .ref 1), (1, .int ((nI d) + (nI 1)))] [] (zq_u1 μ1 4 ((nI d).toNatClampNeg) (nI (b (d * 3 + 1) - 48))) rfl ⟨zn_in (k := d) rfl (by omega) (by decide), trivial⟩ ?_
    rw [zn_add d 1, zn_cl (n := d) (by omega)]
    obtain ⟨μ9, hμ9⟩ : ∃ k, k = (zq_u1 μ1 4 d (nI (b (d * 3 + 1) - 48))) := ⟨_, rfl⟩
    rw [← hμ9]
    refine ih (d + 1) μ9 (by omega) ⟨?_, fun e he => ?_⟩
    · rw [hμ9, hμ1]; exact ((hI.1.u1 (by simp)).u1 (by simp))
    · rw [hμ9, hμ1]
      by_cases h8 : e = d
      · subst h8
        exact ⟨by rw [zq_u1_ne (by decide)]; rw [zq_u1_s]; unfold zo1; rw [Nat.mul_comm], by rw [zq_u1_s]; unfold zo2; rw [Nat.mul_comm]⟩
      · exact ⟨by rw [zq_u1_ne (by decide)]; rw [zq_u1_o2 h8]; exact (hI.2 e (by omega)).1, by rw [zq_u1_o2 h8]; rw [zq_u1_ne (by decide)]; exact (hI.2 e (by omega)).2⟩
set_option maxRecDepth 100000 in
set_option maxHeartbeats 4000000 in
theorem zs_readThings1 {b : Nat → Nat} {n m : Nat} {μ0 : zq_Me} (hT0 : zTxt 1 35 3 b n μ0) (hm0 : μ0.1 1 5 = nI m) (hm9 : ∀ d, d < m → d < ztm (zok1 b) 3 n) : zq_Wp zn_X0_readThings 0 [(0, .ref 1)] [] μ0 (fun r μ => r = none ∧ (zq_fr [3, 4] μ0 μ ∧ ∀ e, e < m → μ.1 3 e = nI (zo1 b e) ∧ μ.1 4 e = nI (zo2 b e))) := by
  refine zq_go zt_X0_readThings 2 [] 2 [(0, .ref 1), (1, .int (nI 0))] [] μ0 rfl trivial ?_
  refine zs_readThings1_l hT0 hm0 hm9 (fun μ hI => ?_) m 0 μ0 (by omega) ⟨zq_fr.rf, fun e he => absurd he (Nat.not_lt_zero e)⟩
  exact zq_retn zt_X0_readThings rfl rfl ⟨rfl, hI⟩
set_option maxRecDepth 100000 in
set_option maxHeartbeats 4000000 in
theorem zs_understand1 {b : Nat → Nat} {n : Nat} {μ0 : zq_Me} (hT0 : zTxt 1 35 3 b n μ0) : zq_Wp zn_X6_understand 0 [(0, .ref 1)] [] μ0 (fun r μ => r = none ∧ zq_fr [1, 3, 4] μ0 μ ∧ zTxt 1 35 3 b n μ ∧ μ.1 1 4 = zdn (ztf (zok1 b) 3 n) ∧ μ.1 1 5 = nI (ztm (zok1 b) 3 n) ∧ ∀ e, e < ztm (zok1 b) 3 n → μ.1 3 e = nI (zo1 b e) ∧ μ.1 4 e = nI (zo2 b e)) := by
  have hn9 := hT0.1
  refine zq_go zt_X6_understand 2 [] 2 [(0, .ref 1)] [.ref 1, .ref 1] μ0 rfl trivial ?_
  refine zq_call zt_X6_understand [.ref 1] [.ref 1] (zs_firstFault1 hT0) rfl rfl ?_
  rintro _ _ ⟨rfl, rfl⟩
  refine zq_go zt_X6_understand 6 [] (if ¬ (zdn (ztf (zok1 b) 3 n)) = (-1) then 31 else 17) [(0, .ref 1)] [.ref 1] (zq_u1 μ0 1 4 (zdn (ztf (zok1 b) 3 n))) rfl trivial ?_
  refine zq_ite (fun h5 => ?_) (fun h5 => ?_)
  · have q0 : ¬ ztf (zok1 b) 3 n = 0 := by
      rw [zdn_m1 (by have := ztf_le (ok := zok1 b) (p := 3) (n := n); omega)] at h5
      exact h5
    have hval : nI 0 = nI (ztm (zok1 b) 3 n) := by unfold ztm; rw [if_neg q0]
    refine zq_go zt_X6_understand 3 [] 36 [(0, .ref 1)] [.ref 1] (zq_u1 (zq_u1 μ0 1 4 (zdn (ztf (zok1 b) 3 n))) 1 5 (nI 0)) rfl trivial ?_
    obtain ⟨μ1, hμ1⟩ : ∃ k, k = (zq_u1 (zq_u1 μ0 1 4 (zdn (ztf (zok1 b) 3 n))) 1 5 (nI 0)) := ⟨_, rfl⟩
    rw [← hμ1]
    have f1 : zq_fr [1, 3, 4] μ0 μ1 := by rw [hμ1]; exact (zq_fr.rf.u1 (by simp)).u1 (by simp)
    have hT1 : zTxt 1 35 3 b n μ1 := hT0.sl (fun i hi => by rw [hμ1, zq_u1_o2 (by omega), zq_u1_o2 (by omega)]) (by rw [hμ1, zq_u1_ne (by decide), zq_u1_ne (by decide)])
    have h4 : μ1.1 1 4 = zdn (ztf (zok1 b) 3 n) := by rw [hμ1, zq_u1_o2 (by decide), zq_u1_s]
    have h5 : μ1.1 1 5 = nI (ztm (zok1 b) 3 n) := by rw [hμ1, zq_u1_s, hval]
    refine zq_call zt_X6_understand [.ref 1] [] (zs_readThings1 hT1 h5 (fun d hd => hd)) rfl rfl ?_
    rintro _ μ2 ⟨rfl, f2, hr⟩
    exact zq_retn zt_X6_understand rfl rfl ⟨rfl, f1.tr (f2.wk (by simp +contextual)), hT1.sl (fun i _ => by rw [f2.a (b := 1) (by decide)]) (f2.a (b := 2) (by decide)), by rw [f2.a (b := 1) (by decide)]; exact h4, by rw [f2.a (b := 1) (by decide)]; exact h5, hr⟩
  · have q0 : ztf (zok1 b) 3 n = 0 := by
      rw [zdn_m1 (by have := ztf_le (ok := zok1 b) (p := 3) (n := n); omega)] at h5
      exact Classical.not_not.mp h5
    have hval : nI ((n + 1) / 3) = nI (ztm (zok1 b) 3 n) := by unfold ztm; rw [if_pos q0]
    refine zq_go zt_X6_understand 8 [¬ (μ0.1 1 2) = 0] 32 [(0, .ref 1)] [.int (((μ0.1 1 3) + (nI 1)) / (μ0.1 1 2)), .ref 1] (zq_u1 μ0 1 4 (zdn (ztf (zok1 b) 3 n))) rfl ⟨by rw [hT0.2.2.1]; decide, trivial⟩ ?_
    rw [hT0.2.2.2.1, zn_add n 1, hT0.2.2.1]
    refine zq_go zt_X6_understand 2 [] 36 [(0, .ref 1)] [.ref 1] (zq_u1 (zq_u1 μ0 1 4 (zdn (ztf (zok1 b) 3 n))) 1 5 ((nI (n + 1)) / (nI 3))) rfl trivial ?_
    rw [pk_div (a := n + 1) (d := 3) (by omega) (by decide) (by decide)]
    obtain ⟨μ1, hμ1⟩ : ∃ k, k = (zq_u1 (zq_u1 μ0 1 4 (zdn (ztf (zok1 b) 3 n))) 1 5 (nI ((n + 1) / 3))) := ⟨_, rfl⟩
    rw [← hμ1]
    have f1 : zq_fr [1, 3, 4] μ0 μ1 := by rw [hμ1]; exact (zq_fr.rf.u1 (by simp)).u1 (by simp)
    have hT1 : zTxt 1 35 3 b n μ1 := hT0.sl (fun i hi => by rw [hμ1, zq_u1_o2 (by omega), zq_u1_o2 (by omega)]) (by rw [hμ1, zq_u1_ne (by decide), zq_u1_ne (by decide)])
    have h4 : μ1.1 1 4 = zdn (ztf (zok1 b) 3 n) := by rw [hμ1, zq_u1_o2 (by decide), zq_u1_s]
    have h5 : μ1.1 1 5 = nI (ztm (zok1 b) 3 n) := by rw [hμ1, zq_u1_s, hval]
    refine zq_call zt_X6_understand [.ref 1] [] (zs_readThings1 hT1 h5 (fun d hd => hd)) rfl rfl ?_
    rintro _ μ2 ⟨rfl, f2, hr⟩
    exact zq_retn zt_X6_understand rfl rfl ⟨rfl, f1.tr (f2.wk (by simp +contextual)), hT1.sl (fun i _ => by rw [f2.a (b := 1) (by decide)]) (f2.a (b := 2) (by decide)), by rw [f2.a (b := 1) (by decide)]; exact h4, by rw [f2.a (b := 1) (by decide)]; exact h5, hr⟩
set_option maxRecDepth 100000 in
set_option maxHeartbeats 4000000 in
theorem zs_isFull1 {b : Nat → Nat} {n : Nat} {μ : zq_Me} (hT : zTxt 1 35 3 b n μ) : zq_Wp zn_X6_isFull 0 [(0, .ref 1)] [] μ (zq_pi (zB (decide (n = 35))) μ) := by
  have hn9 := hT.1
  refine zq_go zt_X6_isFull 5 [] (if (μ.1 1 3) < (μ.1 1 1) then 15 else 11) [(0, .ref 1)] [] μ rfl trivial ?_
  rw [hT.2.2.2.1, hT.2.1]
  refine zq_ite (fun h3 => ?_) (fun h3 => ?_)
  · rw [zn_lt (by omega) (by decide)] at h3
    refine zq_go zt_X6_isFull 1 [] 16 [(0, .ref 1)] [.int (nI 0)] μ rfl trivial ?_
    rw [decide_eq_false (show ¬ n = 35 by omega)]
    exact zq_retz zt_X6_isFull rfl (Or.inl rfl) (⟨rfl, rfl⟩)
  · rw [zn_lt (by omega) (by decide)] at h3
    refine zq_go zt_X6_isFull 2 [] 16 [(0, .ref 1)] [.int (nI 1)] μ rfl trivial ?_
    rw [decide_eq_true (show n = 35 by omega)]
    exact zq_retz zt_X6_isFull rfl (Or.inr rfl) (⟨rfl, rfl⟩)
set_option maxRecDepth 100000 in
set_option maxHeartbeats 4000000 in
theorem zs_add1 {b : Nat → Nat} {n x : Nat} {μ0 : zq_Me} (hT0 : zTxt 1 35 3 b n μ0) (hl : n < 35) (hx : x < 256) : zq_Wp zn_X6_add 0 [(0, .ref 1), (1, .int (nI x))] [] μ0 (fun r μ => r = none ∧ zq_fr [1, 2, 3, 4] μ0 μ ∧ zTxt 1 35 3 (fun i => if i = n then x else b i) (n + 1) μ ∧ μ.1 1 4 = zdn (ztf (zok1 (fun i => if i = n then x else b i)) 3 (n + 1)) ∧ μ.1 1 5 = nI (ztm (zok1 (fun i => if i = n then x else b i)) 3 (n + 1)) ∧ ∀ e, e < ztm (zok1 (fun i => if i = n then x else b i)) 3 (n + 1) → μ.1 3 e = nI (zo1 (fun i => if i = n then x else b i) e) ∧ μ.1 4 e = nI (zo2 (fun i => if i = n then x else b i) e)) := by
  have hn9 := hT0.1
  refine zq_go zt_X6_add 1 [] 1 [(0, .ref 1), (1, .int (nI x))] [.ref 1] μ0 rfl trivial ?_
  refine zq_call zt_X6_add [.ref 1] [] (zs_isFull1 hT0) rfl rfl ?_
  rintro _ _ ⟨rfl, rfl⟩
  refine zq_go zt_X6_add 1 [] (if ¬ (zB (decide (n = 35))) = 0 then 31 else 7) [(0, .ref 1), (1, .int (nI x))] [] μ0 rfl trivial ?_
  rw [if_neg (by rw [decide_eq_false (show ¬ n = 35 by omega)]; decide)]
  refine zq_go zt_X6_add 13 [vp_in (μ0.1 1 3) 35] 28 [(0, .ref 1), (1, .int (nI x))] [.ref 1] (zq_u1 (zq_u1 μ0 2 ((μ0.1 1 3).toNatClampNeg) (nI x)) 1 3 ((μ0.1 1 3) + (nI 1))) rfl ⟨zn_in (k := n) (by rw [hT0.2.2.2.1]) (by omega) (by decide), trivial⟩ ?_
  rw [hT0.2.2.2.1, zn_cl (n := n) (by omega), zn_add n 1]
  obtain ⟨μ1, hμ1⟩ : ∃ k9 : zq_Me, k9 = (zq_u1 (zq_u1 μ0 2 n (nI x)) 1 3 (nI (n + 1))) := ⟨_, rfl⟩
  rw [← hμ1]
  have f1 : zq_fr [1, 2, 3, 4] μ0 μ1 := by rw [hμ1]; exact (zq_fr.rf.u1 (by simp)).u1 (by simp)
  have hT1 : zTxt 1 35 3 (fun i => if i = n then x else b i) (n + 1) μ1 := ⟨by omega, by rw [hμ1, zq_u1_o2 (by decide), zq_u1_ne (by decide)]; exact hT0.2.1, by rw [hμ1, zq_u1_o2 (by decide), zq_u1_ne (by decide)]; exact hT0.2.2.1, by rw [hμ1, zq_u1_s], fun i hi => by
    rw [hμ1, zq_u1_ne (by decide), zq_u1_rd]
    show (if i = n then nI x else μ0.1 2 i) = nI (if i = n then x else b i) ∧ (if i = n then x else b i) < 256
    by_cases h8 : i = n
    · rw [if_pos h8, if_pos h8]; exact ⟨rfl, hx⟩
    · rw [if_neg h8, if_neg h8]; exact hT0.2.2.2.2 i (by omega)⟩
  refine zq_call zt_X6_add [.ref 1] [] (zs_understand1 hT1) rfl rfl ?_
  rintro _ μ2 ⟨rfl, f2, hr⟩
  exact zq_retn zt_X6_add rfl rfl ⟨rfl, f1.tr (f2.wk (by simp +contextual)), hr⟩
set_option maxRecDepth 100000 in
set_option maxHeartbeats 4000000 in
theorem zs_shorten1 {b : Nat → Nat} {n k : Nat} {μ0 : zq_Me} (hT0 : zTxt 1 35 3 b n μ0) (hl : k < n) : zq_Wp zn_X6_shorten 0 [(0, .ref 1), (1, .int (nI k))] [] μ0 (fun r μ => r = none ∧ zq_fr [1, 3, 4] μ0 μ ∧ zTxt 1 35 3 b k μ ∧ μ.1 1 4 = zdn (ztf (zok1 b) 3 k) ∧ μ.1 1 5 = nI (ztm (zok1 b) 3 k) ∧ ∀ e, e < ztm (zok1 b) 3 k → μ.1 3 e = nI (zo1 b e) ∧ μ.1 4 e = nI (zo2 b e)) := by
  have hn9 := hT0.1
  refine zq_go zt_X6_shorten 2 [] (if (nI k) < 0 then 21 else 4) [(0, .ref 1), (1, .int (nI k))] [] μ0 rfl trivial ?_
  rw [if_neg (zn_notneg (by omega))]
  refine zq_go zt_X6_shorten 4 [] (if (μ0.1 1 3) ≤ (nI k) then 21 else 12) [(0, .ref 1), (1, .int (nI k))] [] μ0 rfl trivial ?_
  rw [hT0.2.2.2.1]
  rw [if_neg (by rw [zn_le (by omega) (by omega)]; omega)]
  refine zq_go zt_X6_shorten 4 [] 18 [(0, .ref 1), (1, .int (nI k))] [.ref 1] (zq_u1 μ0 1 3 (nI k)) rfl trivial ?_
  obtain ⟨μ1, hμ1⟩ : ∃ k9 : zq_Me, k9 = (zq_u1 μ0 1 3 (nI k)) := ⟨_, rfl⟩
  rw [← hμ1]
  have f1 : zq_fr [1, 3, 4] μ0 μ1 := by rw [hμ1]; exact zq_fr.rf.u1 (by simp)
  have hT1 : zTxt 1 35 3 b k μ1 := ⟨by omega, by rw [hμ1, zq_u1_o2 (by decide)]; exact hT0.2.1, by rw [hμ1, zq_u1_o2 (by decide)]; exact hT0.2.2.1, by rw [hμ1, zq_u1_s], fun i hi => by
    rw [hμ1, zq_u1_ne (by decide)]
    exact hT0.2.2.2.2 i (by omega)⟩
  refine zq_call zt_X6_shorten [.ref 1] [] (zs_understand1 hT1) rfl rfl ?_
  rintro _ μ2 ⟨rfl, f2, hr⟩
  exact zq_retn zt_X6_shorten rfl rfl ⟨rfl, f1.tr (f2.wk (by simp +contextual)), hr⟩
set_option maxRecDepth 100000 in
set_option maxHeartbeats 4000000 in
theorem zs_shorten1_0 {b : Nat → Nat} {n k : Nat} {μ0 : zq_Me} (hT0 : zTxt 1 35 3 b n μ0) (hk : k < 2 ^ 31) (hl : n ≤ k) : zq_Wp zn_X6_shorten 0 [(0, .ref 1), (1, .int (nI k))] [] μ0 (fun r μ => r = none ∧ μ = μ0) := by
  have hn9 := hT0.1
  refine zq_go zt_X6_shorten 2 [] (if (nI k) < 0 then 21 else 4) [(0, .ref 1), (1, .int (nI k))] [] μ0 rfl trivial ?_
  rw [if_neg (zn_notneg (by omega))]
  refine zq_go zt_X6_shorten 4 [] (if (μ0.1 1 3) ≤ (nI k) then 21 else 12) [(0, .ref 1), (1, .int (nI k))] [] μ0 rfl trivial ?_
  rw [hT0.2.2.2.1]
  rw [if_pos (by rw [zn_le (by omega) (by omega)]; omega)]
  exact zq_retn zt_X6_shorten rfl rfl ⟨rfl, rfl⟩
set_option maxRecDepth 100000 in
set_option maxHeartbeats 4000000 in
theorem zs_isFigure6 {b : Nat → Nat} {n : Nat} {μ : zq_Me} (hT : zTxt 6 31 4 b n μ) {i : Nat} (hi : i < n) : zq_Wp zn_X6_isFigure 0 [(0, .ref 6), (1, .int (nI i))] [] μ (zq_pi (zB (zfig (b i))) μ) := by
  have hn9 := hT.1
  obtain ⟨hb9, hb7⟩ := hT.2.2.2.2 i hi
  refine zq_go zt_X6_isFigure 6 [vp_in (nI i) 35] (if (μ.1 7 ((nI i).toNatClampNeg)) < (nI 48) then 26 else 11) [(0, .ref 6), (1, .int (nI i))] [] μ rfl ⟨zn_in (k := i) rfl (by omega) (by decide), trivial⟩ ?_
  rw [zn_cl (n := i) (by omega), hb9]
  refine zq_ite (fun h4 => ?_) (fun h4 => ?_)
  · rw [zn_lt (by omega) (by omega)] at h4
    refine zq_go zt_X6_isFigure 1 [] 27 [(0, .ref 6), (1, .int (nI i))] [.int (nI 0)] μ rfl trivial ?_
    rw [show zfig (b i) = false from by unfold zfig; rw [decide_eq_false (show ¬ 48 ≤ b i by omega), Bool.false_and]]
    exact zq_retz zt_X6_isFigure rfl (Or.inl rfl) (⟨rfl, rfl⟩)
  · rw [zn_lt (by omega) (by omega)] at h4
    refine zq_go zt_X6_isFigure 6 [vp_in (nI i) 35] (if (nI 56) ≤ (μ.1 7 ((nI i).toNatClampNeg)) then 26 else 22) [(0, .ref 6), (1, .int (nI i))] [] μ rfl ⟨zn_in (k := i) rfl (by omega) (by decide), trivial⟩ ?_
    rw [zn_cl (n := i) (by omega), hb9]
    refine zq_ite (fun h12 => ?_) (fun h12 => ?_)
    · rw [zn_le (by omega) (by omega)] at h12
      refine zq_go zt_X6_isFigure 1 [] 27 [(0, .ref 6), (1, .int (nI i))] [.int (nI 0)] μ rfl trivial ?_
      rw [show zfig (b i) = false from by unfold zfig; rw [decide_eq_false (show ¬ b i < 56 by omega), Bool.and_false]]
      exact zq_retz zt_X6_isFigure rfl (Or.inl rfl) (⟨rfl, rfl⟩)
    · rw [zn_le (by omega) (by omega)] at h12
      refine zq_go zt_X6_isFigure 2 [] 27 [(0, .ref 6), (1, .int (nI i))] [.int (nI 1)] μ rfl trivial ?_
      rw [show zfig (b i) = true from zfig_iff.mpr ⟨by omega, by omega⟩]
      exact zq_retz zt_X6_isFigure rfl (Or.inr rfl) (⟨rfl, rfl⟩)
set_option maxRecDepth 100000 in
set_option maxHeartbeats 4000000 in
theorem zs_figure6 {b : Nat → Nat} {n : Nat} {μ : zq_Me} (hT : zTxt 6 31 4 b n μ) {i : Nat} (hi : i < n) (hf : zfig (b i) = true) : zq_Wp zn_X6_figure 0 [(0, .ref 6), (1, .int (nI i))] [] μ (zq_pi (nI (b i - 48)) μ) := by
  have hn9 := hT.1
  obtain ⟨hb9, hb7⟩ := hT.2.2.2.2 i hi
  have h48 := (zfig_iff.mp hf).1
  refine zq_go zt_X6_figure 6 [vp_in (nI i) 35] 9 [(0, .ref 6), (1, .int (nI i))] [.int ((μ.1 7 ((nI i).toNatClampNeg)) - (nI 48))] μ rfl ⟨zn_in (k := i) rfl (by omega) (by decide), trivial⟩ ?_
  rw [zn_cl (n := i) (by omega), hb9, zn_sub (show 48 ≤ (b i) by omega)]
  exact zq_retn zt_X6_figure rfl rfl (⟨rfl, rfl⟩)
set_option maxRecDepth 100000 in
set_option maxHeartbeats 4000000 in
theorem zs_sortAt {b : Nat → Nat} {n : Nat} {μ : zq_Me} (hT : zTxt 6 31 4 b n μ) {i : Nat} (hi : i < n) : zq_Wp zn_X3_sortAt 0 [(0, .ref 6), (1, .int (nI i))] [] μ (zq_pi (zdn (zsrt (b i))) μ) := by
  have hn9 := hT.1
  obtain ⟨hb9, hb7⟩ := hT.2.2.2.2 i hi
  refine zq_go zt_X3_sortAt 5 [vp_in (nI i) 35] (if (μ.1 7 ((nI i).toNatClampNeg)) = 99 then 42 else if (μ.1 7 ((nI i).toNatClampNeg)) = 103 then 40 else if (μ.1 7 ((nI i).toNatClampNeg)) = 104 then 44 else 46) [(0, .ref 6), (1, .int (nI i))] [] μ rfl ⟨zn_in (k := i) rfl (by omega) (by decide), trivial⟩ ?_
  rw [zn_cl (n := i) (by omega), hb9]
  by_cases h99 : b i = 99
  · rw [if_pos (show nI (b i) = 99 from by rw [h99]; rfl)]
    refine zq_go zt_X3_sortAt 1 [] 43 [(0, .ref 6), (1, .int (nI i))] [.int (nI 1)] μ rfl trivial ?_
    have e9 : zsrt (b i) = 2 := by unfold zsrt; simp [*]
    rw [e9]
    exact zq_retn zt_X3_sortAt rfl rfl (⟨rfl, rfl⟩)
  · by_cases h103 : b i = 103
    · rw [if_neg (show ¬ nI (b i) = 99 from fun e => by rw [show (99 : Int32) = nI 99 from rfl, zn_eq (by omega) (by decide)] at e; omega), if_pos (show nI (b i) = 103 from by rw [h103]; rfl)]
      refine zq_go zt_X3_sortAt 1 [] 41 [(0, .ref 6), (1, .int (nI i))] [.int (nI 0)] μ rfl trivial ?_
      have e9 : zsrt (b i) = 1 := by unfold zsrt; simp [*]
      rw [e9]
      exact zq_retn zt_X3_sortAt rfl rfl (⟨rfl, rfl⟩)
    · by_cases h104 : b i = 104
      · rw [if_neg (show ¬ nI (b i) = 99 from fun e => by rw [show (99 : Int32) = nI 99 from rfl, zn_eq (by omega) (by decide)] at e; omega), if_neg (show ¬ nI (b i) = 103 from fun e => by rw [show (103 : Int32) = nI 103 from rfl, zn_eq (by omega) (by decide)] at e; omega), if_pos (show nI (b i) = 104 from by rw [h104]; rfl)]
        refine zq_go zt_X3_sortAt 1 [] 45 [(0, .ref 6), (1, .int (nI i))] [.int (nI 2)] μ rfl trivial ?_
        have e9 : zsrt (b i) = 3 := by unfold zsrt; simp [*]
        rw [e9]
        exact zq_retn zt_X3_sortAt rfl rfl (⟨rfl, rfl⟩)
      · rw [if_neg (show ¬ nI (b i) = 99 from fun e => by rw [show (99 : Int32) = nI 99 from rfl, zn_eq (by omega) (by decide)] at e; omega), if_neg (show ¬ nI (b i) = 103 from fun e => by rw [show (103 : Int32) = nI 103 from rfl, zn_eq (by omega) (by decide)] at e; omega), if_neg (show ¬ nI (b i) = 104 from fun e => by rw [show (104 : Int32) = nI 104 from rfl, zn_eq (by omega) (by decide)] at e; omega)]
        refine zq_go zt_X3_sortAt 1 [] 47 [(0, .ref 6), (1, .int (nI i))] [.int (-1)] μ rfl trivial ?_
        have e9 : zsrt (b i) = 0 := by unfold zsrt; simp [*]
        rw [e9]
        exact zq_retn zt_X3_sortAt rfl rfl (⟨rfl, rfl⟩)
set_option maxRecDepth 100000 in
set_option maxHeartbeats 4000000 in
theorem zs_fits6 {b : Nat → Nat} {n : Nat} {μ : zq_Me} (hT : zTxt 6 31 4 b n μ) {i : Nat} (hi : i < n) : zq_Wp zn_X3_fits 0 [(0, .ref 6), (1, .int (nI i)), (2, .int (nI (i % 4)))] [] μ (zq_pi (zB (zft6 b i)) μ) := by
  have hn9 := hT.1
  obtain ⟨hb9, hb7⟩ := hT.2.2.2.2 i hi
  refine zq_go zt_X3_fits 2 [] (if ¬ (nI (i % 4)) = 0 then 21 else 4) [(0, .ref 6), (1, .int (nI i)), (2, .int (nI (i % 4)))] [] μ rfl trivial ?_
  refine zq_ite (fun h3 => ?_) (fun h3 => ?_)
  · have q2 : ¬ i % 4 = 0 := by
      rw [show (0 : Int32) = nI 0 from rfl, zn_eq (by omega) (by decide)] at h3
      exact h3
    refine zq_go zt_X3_fits 2 [] 23 [(0, .ref 6), (1, .int (nI i)), (2, .int (nI (i % 4)))] [.int (nI i), .ref 6] μ rfl trivial ?_
    refine zq_call zt_X3_fits [.ref 6, .int (nI i)] [] (zs_isFigure6 hT hi) rfl rfl ?_
    rintro _ _ ⟨rfl, rfl⟩
    rw [show zft6 b i = zfig (b i) from if_neg q2]
    exact zq_retz zt_X3_fits rfl (zB_01 _) (⟨rfl, rfl⟩)
  · have q2 : i % 4 = 0 := by
      rw [show (0 : Int32) = nI 0 from rfl, zn_eq (by omega) (by decide)] at h3
      omega
    refine zq_go zt_X3_fits 2 [] 6 [(0, .ref 6), (1, .int (nI i)), (2, .int (nI (i % 4)))] [.int (nI i), .ref 6] μ rfl trivial ?_
    refine zq_call zt_X3_fits [.ref 6, .int (nI i)] [] (zs_sortAt hT hi) rfl rfl ?_
    rintro _ _ ⟨rfl, rfl⟩
    refine zq_go zt_X3_fits 2 [] (if (zdn (zsrt (b i))) = (-1) then 17 else 13) [(0, .ref 6), (1, .int (nI i)), (2, .int (nI (i % 4)))] [] μ rfl trivial ?_
    refine zq_ite (fun h19 => ?_) (fun h19 => ?_)
    · rw [zdn_m1 (by have := zsrt_le (b i); omega)] at h19
      refine zq_go zt_X3_fits 2 [] 26 [(0, .ref 6), (1, .int (nI i)), (2, .int (nI (i % 4)))] [.int (nI 0)] μ rfl trivial ?_
      rw [show zft6 b i = false from by unfold zft6; rw [if_pos q2, decide_eq_true h19]; rfl]
      exact zq_retz zt_X3_fits rfl (Or.inl rfl) (⟨rfl, rfl⟩)
    · rw [zdn_m1 (by have := zsrt_le (b i); omega)] at h19
      refine zq_go zt_X3_fits 2 [] 26 [(0, .ref 6), (1, .int (nI i)), (2, .int (nI (i % 4)))] [.int (nI 1)] μ rfl trivial ?_
      rw [show zft6 b i = true from by unfold zft6; rw [if_pos q2, decide_eq_false h19]; rfl]
      exact zq_retz zt_X3_fits rfl (Or.inr rfl) (⟨rfl, rfl⟩)
set_option maxRecDepth 100000 in
set_option maxHeartbeats 4000000 in
theorem zs_firstFault6_l {b : Nat → Nat} {n : Nat} {μ : zq_Me} (hT : zTxt 6 31 4 b n μ) : ∀ (j i : Nat), i + j = n → (∀ q, q < i → zok6 b q = true) → zq_Wp zn_X6_firstFault 2 [(0, .ref 6), (1, .int (nI i))] [] μ (zq_pi (zdn (ztf (zok6 b) 4 n)) μ) := by
  intro j
  induction j with
  | zero =>
    intro i hij hm
    have hn9 := hT.1
    have he9 : i = n := by omega
    have ha := ztf_all (ok := zok6 b) (p := 4) (n := n) (fun q hq => hm q (by omega))
    refine zq_go zt_X6_firstFault 4 [] (if (μ.1 6 3) ≤ (nI i) then 58 else 10) [(0, .ref 6), (1, .int (nI i))] [] μ rfl trivial ?_
    rw [hT.2.2.2.1]
    rw [if_pos (by rw [zn_le (by omega) (by omega)]; omega)]
    refine zq_go zt_X6_firstFault 3 [] (if (μ.1 6 3) = 0 then 83 else 65) [(0, .ref 6), (1, .int (nI i))] [] μ rfl trivial ?_
    rw [hT.2.2.2.1]
    refine zq_ite (fun h12 => ?_) (fun h12 => ?_)
    · have q0 : n = 0 := by
        rw [show (0 : Int32) = nI 0 from rfl, zn_eq (by omega) (by decide)] at h12
        exact h12
      refine zq_go zt_X6_firstFault 2 [] 91 [(0, .ref 6), (1, .int (nI i))] [.int (-1)] μ rfl trivial ?_
      rw [if_pos (Or.inl q0)] at ha
      rw [ha]
      exact zq_retn zt_X6_firstFault rfl rfl (⟨rfl, rfl⟩)
    · have q0 : ¬ n = 0 := by
        rw [show (0 : Int32) = nI 0 from rfl, zn_eq (by omega) (by decide)] at h12
        exact h12
      refine zq_go zt_X6_firstFault 10 [¬ (μ.1 6 2) = 0] (if ¬ ((μ.1 6 3) - (μ.1 6 3) / (μ.1 6 2) * (μ.1 6 2)) = ((μ.1 6 2) - (nI 1)) then 87 else 83) [(0, .ref 6), (1, .int (nI i))] [] μ rfl ⟨by rw [hT.2.2.1]; decide, trivial⟩ ?_
      rw [hT.2.2.2.1, hT.2.2.1, zn_sub (show 1 ≤ 4 by omega)]
      rw [pk_rem (a := n) (d := 4) (by omega) (by decide) (by decide)]
      refine zq_ite (fun h26 => ?_) (fun h26 => ?_)
      · rw [zn_eq (by omega) (by decide)] at h26
        rw [if_neg (show ¬ (n = 0 ∨ n % 4 = 4 - 1) by omega)] at ha
        refine zq_go zt_X6_firstFault 2 [] 91 [(0, .ref 6), (1, .int (nI i))] [.int (μ.1 6 3)] μ rfl trivial ?_
        rw [hT.2.2.2.1]
        rw [ha]
        exact zq_retn zt_X6_firstFault rfl rfl (⟨rfl, rfl⟩)
      · rw [zn_eq (by omega) (by decide)] at h26
        rw [if_pos (show n = 0 ∨ n % 4 = 4 - 1 by omega)] at ha
        refine zq_go zt_X6_firstFault 2 [] 91 [(0, .ref 6), (1, .int (nI i))] [.int (-1)] μ rfl trivial ?_
        rw [ha]
        exact zq_retn zt_X6_firstFault rfl rfl (⟨rfl, rfl⟩)
  | succ j ih =>
    intro i hij hm
    have hn9 := hT.1
    have hi : i < n := by omega
    obtain ⟨hb9, hb7⟩ := hT.2.2.2.2 i hi
    refine zq_go zt_X6_firstFault 4 [] (if (μ.1 6 3) ≤ (nI i) then 58 else 10) [(0, .ref 6), (1, .int (nI i))] [] μ rfl trivial ?_
    rw [hT.2.2.2.1]
    rw [if_neg (by rw [zn_le (by omega) (by omega)]; omega)]
    refine zq_go zt_X6_firstFault 11 [¬ (μ.1 6 2) = 0] (if ¬ ((nI i) - (nI i) / (μ.1 6 2) * (μ.1 6 2)) = ((μ.1 6 2) - (nI 1)) then 41 else 27) [(0, .ref 6), (1, .int (nI i)), (2, .int ((nI i) - (nI i) / (μ.1 6 2) * (μ.1 6 2)))] [] μ rfl ⟨by rw [hT.2.2.1]; decide, trivial⟩ ?_
    rw [hT.2.2.1, zn_sub (show 1 ≤ 4 by omega)]
    rw [pk_rem (a := i) (d := 4) (by omega) (by decide) (by decide)]
    refine zq_ite (fun h49 => ?_) (fun h49 => ?_)
    · have q2 : ¬ i % 4 = 3 := by
        rw [zn_eq (by omega) (by decide)] at h49
        exact h49
      have q3 : zok6 b i = zft6 b i := if_neg q2
      refine zq_go zt_X6_firstFault 3 [] 44 [(0, .ref 6), (1, .int (nI i)), (2, .int (nI (i % 4)))] [.int (nI (i % 4)), .int (nI i), .ref 6] μ rfl trivial ?_
      refine zq_call zt_X6_firstFault [.ref 6, .int (nI i), .int (nI (i % 4))] [] (zs_fits6 hT hi) rfl rfl ?_
      rintro _ _ ⟨rfl, rfl⟩
      refine zq_go zt_X6_firstFault 1 [] (if ¬ (zB (zft6 b i)) = 0 then 52 else 50) [(0, .ref 6), (1, .int (nI i)), (2, .int (nI (i % 4)))] [] μ rfl trivial ?_
      refine zq_ite (fun h58 => ?_) (fun h58 => ?_)
      · refine zq_go zt_X6_firstFault 2 [] 2 [(0, .ref 6), (1, .int ((nI i) + (nI 1))), (2, .int (nI (i % 4)))] [] μ rfl trivial ?_
        rw [zn_add i 1]
        exact zq_drp [0, 1] _ rfl (ih (i + 1) (by omega) (fun q hq => if h8 : q = i then by rw [h8]; exact (q3.trans (zB_t h58)) else hm q (by omega)))
      · refine zq_go zt_X6_firstFault 1 [] 51 [(0, .ref 6), (1, .int (nI i)), (2, .int (nI (i % 4)))] [.int (nI i)] μ rfl trivial ?_
        rw [ztf_at (p := 4) hi (q3.trans (zB_f (Classical.not_not.mp h58))) hm]
        exact zq_retn zt_X6_firstFault rfl rfl (⟨rfl, rfl⟩)
    · have q2 : i % 4 = 3 := by
        rw [zn_eq (by omega) (by decide)] at h49
        omega
      have q3 : zok6 b i = decide (b i = 59) := if_pos q2
      refine zq_go zt_X6_firstFault 6 [vp_in (nI i) 35] (if (μ.1 7 ((nI i).toNatClampNeg)) = (nI 59) then 52 else 38) [(0, .ref 6), (1, .int (nI i)), (2, .int (nI (i % 4)))] [] μ rfl ⟨zn_in (k := i) rfl (by omega) (by decide), trivial⟩ ?_
      rw [zn_cl (n := i) (by omega), hb9]
      refine zq_ite (fun h71 => ?_) (fun h71 => ?_)
      · rw [zn_eq (by omega) (by decide)] at h71
        refine zq_go zt_X6_firstFault 2 [] 2 [(0, .ref 6), (1, .int ((nI i) + (nI 1))), (2, .int (nI (i % 4)))] [] μ rfl trivial ?_
        rw [zn_add i 1]
        exact zq_drp [0, 1] _ rfl (ih (i + 1) (by omega) (fun q hq => if h8 : q = i then by rw [h8]; exact (q3.trans (decide_eq_true h71)) else hm q (by omega)))
      · rw [zn_eq (by omega) (by decide)] at h71
        refine zq_go zt_X6_firstFault 1 [] 50 [(0, .ref 6), (1, .int (nI i)), (2, .int (nI (i % 4)))] [] μ rfl trivial ?_
        refine zq_go zt_X6_firstFault 1 [] 51 [(0, .ref 6), (1, .int (nI i)), (2, .int (nI (i % 4)))] [.int (nI i)] μ rfl trivial ?_
        rw [ztf_at (p := 4) hi (q3.trans (decide_eq_false h71)) hm]
        exact zq_retn zt_X6_firstFault rfl rfl (⟨rfl, rfl⟩)
set_option maxRecDepth 100000 in
set_option maxHeartbeats 4000000 in
theorem zs_firstFault6 {b : Nat → Nat} {n : Nat} {μ : zq_Me} (hT : zTxt 6 31 4 b n μ) : zq_Wp zn_X6_firstFault 0 [(0, .ref 6)] [] μ (zq_pi (zdn (ztf (zok6 b) 4 n)) μ) := by
  refine zq_go zt_X6_firstFault 2 [] 2 [(0, .ref 6), (1, .int (nI 0))] [] μ rfl trivial ?_
  exact zs_firstFault6_l hT n 0 (by omega) (fun q hq => absurd hq (Nat.not_lt_zero q))
set_option maxRecDepth 100000 in
set_option maxHeartbeats 4000000 in
theorem zs_readThings6_l {Q : zq_Post} {b : Nat → Nat} {n m : Nat} {μ0 : zq_Me} (hT0 : zTxt 6 31 4 b n μ0) (hm0 : μ0.1 6 5 = nI m) (hm9 : ∀ d, d < m → d < ztm (zok6 b) 4 n) (kk : ∀ μ : zq_Me, (zq_fr [8, 9, 10] μ0 μ ∧ ∀ e, e < m → μ.1 8 e = nI (zps b e) ∧ μ.1 9 e = nI (zpt b e) ∧ μ.1 10 e = nI (zpb b e)) → zq_Wp zn_X3_readThings 59 [] [] μ Q) : ∀ (j d : Nat) (μ : zq_Me), d + j = m → (zq_fr [8, 9, 10] μ0 μ ∧ ∀ e, e < d → μ.1 8 e = nI (zps b e) ∧ μ.1 9 e = nI (zpt b e) ∧ μ.1 10 e = nI (zpb b e)) → zq_Wp zn_X3_readThings 2 [(0, .ref 6), (1, .int (nI d))] [] μ Q := by
  intro j
  induction j with
  | zero =>
    intro d μ hij hI
    have hT := hT0.sl (fun i _ => by rw [hI.1.a (b := 6) (by decide)]) (hI.1.a (b := 7) (by decide))
    have hm : μ.1 6 5 = nI m := by rw [hI.1.a (b := 6) (by decide)]; exact hm0
    have hn9 := hT.1
    have hm8 : m ≤ 8 := Classical.byContradiction (fun h => by have := ztm_6 (hm9 8 (by omega)); omega)
    have he9 : d = m := by omega
    rw [he9] at hI
    refine zq_go zt_X3_readThings 4 [] (if (μ.1 6 5) ≤ (nI d) then 59 else 10) [(0, .ref 6), (1, .int (nI d))] [] μ rfl trivial ?_
    rw [hm]
    rw [if_pos (by rw [zn_le (by omega) (by omega)]; omega)]
    exact zq_drp [] [] rfl (kk μ hI)
  | succ j ih =>
    intro d μ hij hI
    have hT := hT0.sl (fun i _ => by rw [hI.1.a (b := 6) (by decide)]) (hI.1.a (b := 7) (by decide))
    have hm : μ.1 6 5 = nI m := by rw [hI.1.a (b := 6) (by decide)]; exact hm0
    have hn9 := hT.1
    have hm8 : m ≤ 8 := Classical.byContradiction (fun h => by have := ztm_6 (hm9 8 (by omega)); omega)
    have hd9 := ztm_6f (hm9 d (by omega))
    refine zq_go zt_X3_readThings 4 [] (if (μ.1 6 5) ≤ (nI d) then 59 else 10) [(0, .ref 6), (1, .int (nI d))] [] μ rfl trivial ?_
    rw [hm]
    rw [if_neg (by rw [zn_le (by omega) (by omega)]; omega)]
    refine zq_go zt_X3_readThings 7 [] 19 [(0, .ref 6), (1, .int (nI d))] [.int ((nI d) * (nI 4)), .ref 6, .int (nI d), .ref 8] μ rfl trivial ?_
    rw [zn_mul d 4]
    refine zq_call zt_X3_readThings [.ref 6, .int (nI (d * 4))] [.int (nI d), .ref 8] (zs_sortAt hT (show d * 4 < n by omega)) rfl rfl ?_
    rintro _ _ ⟨rfl, rfl⟩
    rw [show zdn (zsrt (b (d * 4))) = nI (zps b d) from by rw [Nat.mul_comm d 4]; unfold zps; cases h8 : zsrt (b (4 * d)) with
      | zero => exact absurd h8 hd9.2.1
      | succ k => rfl]
    refine zq_go zt_X3_readThings 10 [vp_in (nI d) 8] 34 [(0, .ref 6), (1, .int (nI d))] [.int (((nI d) * (nI 4)) + (nI 1)), .ref 6, .int (nI d), .ref 9] (zq_u1 μ 8 ((nI d).toNatClampNeg) (nI (zps b d))) rfl ⟨zn_in (k := d) rfl (by omega) (by decide), trivial⟩ ?_
    rw [zn_mul d 4, zn_add (d * 4) 1, zn_cl (n := d) (by omega)]
    obtain ⟨μ1, hμ1⟩ : ∃ k, k = (zq_u1 μ 8 d (nI (zps b d))) := ⟨_, rfl⟩
    rw [← hμ1]
    have hT : zTxt 6 31 4 b n μ1 := hT.sl (fun i _ => by rw [hμ1, zq_u1_ne (by decide)]) (by rw [hμ1, zq_u1_ne (by decide)])
    refine zq_call zt_X3_readThings [.ref 6, .int (nI ((d * 4) + 1))] [.int (nI d), .ref 9] (zs_figure6 hT (show d * 4 + 1 < n by omega) (by rw [Nat.mul_comm]; exact hd9.2.2.1)) rfl rfl ?_
    rintro _ _ ⟨rfl, rfl⟩
    refine zq_go zt_X3_readThings 10 [vp_in (nI d) 8] 49 [(0, .ref 6), (1, .int (nI d))] [.int (((nI d) * (nI 4)) + (nI 2)), .ref 6, .int (nI d), .ref 10] (zq_u1 μ1 9 ((nI d).toNatClampNeg) (nI (b (d * 4 + 1) - 48))) rfl ⟨zn_in (k := d) rfl (by omega) (by decide), trivial⟩ ?_
    rw [zn_mul d 4, zn_add (d * 4) 2, zn_cl (n := d) (by omega)]
    obtain ⟨μ2, hμ2⟩ : ∃ k, k = (zq_u1 μ1 9 d (nI (b (d * 4 + 1) - 48))) := ⟨_, rfl⟩
    rw [← hμ2]
    have hT : zTxt 6 31 4 b n μ2 := hT.sl (fun i _ => by rw [hμ2, zq_u1_ne (by decide)]) (by rw [hμ2, zq_u1_ne (by decide)])
    refine zq_call zt_X3_readThings [.ref 6, .int (nI ((d * 4) + 2))] [.int (nI d), .ref 10] (zs_figure6 hT (show d * 4 + 2 < n by omega) (by rw [Nat.mul_comm]; exact hd9.2.2.2)) rfl rfl ?_
    rintro _ _ ⟨rfl, rfl⟩
    refine zq_go zt_X3_readThings 3 [vp_in (nI d) 8] 2 [(0, .ref 6), (1, .int ((nI d) + (nI 1)))] [] (zq_u1 μ2 10 ((nI d).toNatClampNeg) (nI (b (d * 4 + 2) - 48))) rfl ⟨zn_in (k := d) rfl (by omega) (by decide), trivial⟩ ?_
    rw [zn_add d 1, zn_cl (n := d) (by omega)]
    obtain ⟨μ9, hμ9⟩ : ∃ k, k = (zq_u1 μ2 10 d (nI (b (d * 4 + 2) - 48))) := ⟨_, rfl⟩
    rw [← hμ9]
    refine ih (d + 1) μ9 (by omega) ⟨?_, fun e he => ?_⟩
    · rw [hμ9, hμ2, hμ1]; exact (((hI.1.u1 (by simp)).u1 (by simp)).u1 (by simp))
    · rw [hμ9, hμ2, hμ1]
      by_cases h8 : e = d
      · subst h8
        exact ⟨by rw [zq_u1_ne (by decide)]; rw [zq_u1_ne (by decide)]; rw [zq_u1_s], by rw [zq_u1_ne (by decide)]; rw [zq_u1_s]; unfold zpt; rw [Nat.mul_comm], by rw [zq_u1_s]; unfold zpb; rw [Nat.mul_comm]⟩
      · exact ⟨by rw [zq_u1_ne (by decide)]; rw [zq_u1_ne (by decide)]; rw [zq_u1_o2 h8]; exact (hI.2 e (by omega)).1, by rw [zq_u1_ne (by decide)]; rw [zq_u1_o2 h8]; rw [zq_u1_ne (by decide)]; exact (hI.2 e (by omega)).2.1, by rw [zq_u1_o2 h8]; rw [zq_u1_ne (by decide)]; rw [zq_u1_ne (by decide)]; exact (hI.2 e (by omega)).2.2⟩
set_option maxRecDepth 100000 in
set_option maxHeartbeats 4000000 in
theorem zs_readThings6 {b : Nat → Nat} {n m : Nat} {μ0 : zq_Me} (hT0 : zTxt 6 31 4 b n μ0) (hm0 : μ0.1 6 5 = nI m) (hm9 : ∀ d, d < m → d < ztm (zok6 b) 4 n) : zq_Wp zn_X3_readThings 0 [(0, .ref 6)] [] μ0 (fun r μ => r = none ∧ (zq_fr [8, 9, 10] μ0 μ ∧ ∀ e, e < m → μ.1 8 e = nI (zps b e) ∧ μ.1 9 e = nI (zpt b e) ∧ μ.1 10 e = nI (zpb b e))) := by
  refine zq_go zt_X3_readThings 2 [] 2 [(0, .ref 6), (1, .int (nI 0))] [] μ0 rfl trivial ?_
  refine zs_readThings6_l hT0 hm0 hm9 (fun μ hI => ?_) m 0 μ0 (by omega) ⟨zq_fr.rf, fun e he => absurd he (Nat.not_lt_zero e)⟩
  exact zq_retn zt_X3_readThings rfl rfl ⟨rfl, hI⟩
set_option maxRecDepth 100000 in
set_option maxHeartbeats 4000000 in
theorem zs_understand6 {b : Nat → Nat} {n : Nat} {μ0 : zq_Me} (hT0 : zTxt 6 31 4 b n μ0) : zq_Wp zn_X6_understand 0 [(0, .ref 6)] [] μ0 (fun r μ => r = none ∧ zq_fr [6, 8, 9, 10] μ0 μ ∧ zTxt 6 31 4 b n μ ∧ μ.1 6 4 = zdn (ztf (zok6 b) 4 n) ∧ μ.1 6 5 = nI (ztm (zok6 b) 4 n) ∧ ∀ e, e < ztm (zok6 b) 4 n → μ.1 8 e = nI (zps b e) ∧ μ.1 9 e = nI (zpt b e) ∧ μ.1 10 e = nI (zpb b e)) := by
  have hn9 := hT0.1
  refine zq_go zt_X6_understand 2 [] 2 [(0, .ref 6)] [.ref 6, .ref 6] μ0 rfl trivial ?_
  refine zq_call zt_X6_understand [.ref 6] [.ref 6] (zs_firstFault6 hT0) rfl rfl ?_
  rintro _ _ ⟨rfl, rfl⟩
  refine zq_go zt_X6_understand 6 [] (if ¬ (zdn (ztf (zok6 b) 4 n)) = (-1) then 31 else 17) [(0, .ref 6)] [.ref 6] (zq_u1 μ0 6 4 (zdn (ztf (zok6 b) 4 n))) rfl trivial ?_
  refine zq_ite (fun h5 => ?_) (fun h5 => ?_)
  · have q0 : ¬ ztf (zok6 b) 4 n = 0 := by
      rw [zdn_m1 (by have := ztf_le (ok := zok6 b) (p := 4) (n := n); omega)] at h5
      exact h5
    have hval : nI 0 = nI (ztm (zok6 b) 4 n) := by unfold ztm; rw [if_neg q0]
    refine zq_go zt_X6_understand 3 [] 36 [(0, .ref 6)] [.ref 6] (zq_u1 (zq_u1 μ0 6 4 (zdn (ztf (zok6 b) 4 n))) 6 5 (nI 0)) rfl trivial ?_
    obtain ⟨μ1, hμ1⟩ : ∃ k, k = (zq_u1 (zq_u1 μ0 6 4 (zdn (ztf (zok6 b) 4 n))) 6 5 (nI 0)) := ⟨_, rfl⟩
    rw [← hμ1]
    have f1 : zq_fr [6, 8, 9, 10] μ0 μ1 := by rw [hμ1]; exact (zq_fr.rf.u1 (by simp)).u1 (by simp)
    have hT1 : zTxt 6 31 4 b n μ1 := hT0.sl (fun i hi => by rw [hμ1, zq_u1_o2 (by omega), zq_u1_o2 (by omega)]) (by rw [hμ1, zq_u1_ne (by decide), zq_u1_ne (by decide)])
    have h4 : μ1.1 6 4 = zdn (ztf (zok6 b) 4 n) := by rw [hμ1, zq_u1_o2 (by decide), zq_u1_s]
    have h5 : μ1.1 6 5 = nI (ztm (zok6 b) 4 n) := by rw [hμ1, zq_u1_s, hval]
    refine zq_call zt_X6_understand [.ref 6] [] (zs_readThings6 hT1 h5 (fun d hd => hd)) rfl rfl ?_
    rintro _ μ2 ⟨rfl, f2, hr⟩
    exact zq_retn zt_X6_understand rfl rfl ⟨rfl, f1.tr (f2.wk (by simp +contextual)), hT1.sl (fun i _ => by rw [f2.a (b := 6) (by decide)]) (f2.a (b := 7) (by decide)), by rw [f2.a (b := 6) (by decide)]; exact h4, by rw [f2.a (b := 6) (by decide)]; exact h5, hr⟩
  · have q0 : ztf (zok6 b) 4 n = 0 := by
      rw [zdn_m1 (by have := ztf_le (ok := zok6 b) (p := 4) (n := n); omega)] at h5
      exact Classical.not_not.mp h5
    have hval : nI ((n + 1) / 4) = nI (ztm (zok6 b) 4 n) := by unfold ztm; rw [if_pos q0]
    refine zq_go zt_X6_understand 8 [¬ (μ0.1 6 2) = 0] 32 [(0, .ref 6)] [.int (((μ0.1 6 3) + (nI 1)) / (μ0.1 6 2)), .ref 6] (zq_u1 μ0 6 4 (zdn (ztf (zok6 b) 4 n))) rfl ⟨by rw [hT0.2.2.1]; decide, trivial⟩ ?_
    rw [hT0.2.2.2.1, zn_add n 1, hT0.2.2.1]
    refine zq_go zt_X6_understand 2 [] 36 [(0, .ref 6)] [.ref 6] (zq_u1 (zq_u1 μ0 6 4 (zdn (ztf (zok6 b) 4 n))) 6 5 ((nI (n + 1)) / (nI 4))) rfl trivial ?_
    rw [pk_div (a := n + 1) (d := 4) (by omega) (by decide) (by decide)]
    obtain ⟨μ1, hμ1⟩ : ∃ k, k = (zq_u1 (zq_u1 μ0 6 4 (zdn (ztf (zok6 b) 4 n))) 6 5 (nI ((n + 1) / 4))) := ⟨_, rfl⟩
    rw [← hμ1]
    have f1 : zq_fr [6, 8, 9, 10] μ0 μ1 := by rw [hμ1]; exact (zq_fr.rf.u1 (by simp)).u1 (by simp)
    have hT1 : zTxt 6 31 4 b n μ1 := hT0.sl (fun i hi => by rw [hμ1, zq_u1_o2 (by omega), zq_u1_o2 (by omega)]) (by rw [hμ1, zq_u1_ne (by decide), zq_u1_ne (by decide)])
    have h4 : μ1.1 6 4 = zdn (ztf (zok6 b) 4 n) := by rw [hμ1, zq_u1_o2 (by decide), zq_u1_s]
    have h5 : μ1.1 6 5 = nI (ztm (zok6 b) 4 n) := by rw [hμ1, zq_u1_s, hval]
    refine zq_call zt_X6_understand [.ref 6] [] (zs_readThings6 hT1 h5 (fun d hd => hd)) rfl rfl ?_
    rintro _ μ2 ⟨rfl, f2, hr⟩
    exact zq_retn zt_X6_understand rfl rfl ⟨rfl, f1.tr (f2.wk (by simp +contextual)), hT1.sl (fun i _ => by rw [f2.a (b := 6) (by decide)]) (f2.a (b := 7) (by decide)), by rw [f2.a (b := 6) (by decide)]; exact h4, by rw [f2.a (b := 6) (by decide)]; exact h5, hr⟩
set_option maxRecDepth 100000 in
set_option maxHeartbeats 4000000 in
theorem zs_isFull6 {b : Nat → Nat} {n : Nat} {μ : zq_Me} (hT : zTxt 6 31 4 b n μ) : zq_Wp zn_X6_isFull 0 [(0, .ref 6)] [] μ (zq_pi (zB (decide (n = 31))) μ) := by
  have hn9 := hT.1
  refine zq_go zt_X6_isFull 5 [] (if (μ.1 6 3) < (μ.1 6 1) then 15 else 11) [(0, .ref 6)] [] μ rfl trivial ?_
  rw [hT.2.2.2.1, hT.2.1]
  refine zq_ite (fun h3 => ?_) (fun h3 => ?_)
  · rw [zn_lt (by omega) (by decide)] at h3
    refine zq_go zt_X6_isFull 1 [] 16 [(0, .ref 6)] [.int (nI 0)] μ rfl trivial ?_
    rw [decide_eq_false (show ¬ n = 31 by omega)]
    exact zq_retz zt_X6_isFull rfl (Or.inl rfl) (⟨rfl, rfl⟩)
  · rw [zn_lt (by omega) (by decide)] at h3
    refine zq_go zt_X6_isFull 2 [] 16 [(0, .ref 6)] [.int (nI 1)] μ rfl trivial ?_
    rw [decide_eq_true (show n = 31 by omega)]
    exact zq_retz zt_X6_isFull rfl (Or.inr rfl) (⟨rfl, rfl⟩)
set_option maxRecDepth 100000 in
set_option maxHeartbeats 4000000 in
theorem zs_add6 {b : Nat → Nat} {n x : Nat} {μ0 : zq_Me} (hT0 : zTxt 6 31 4 b n μ0) (hl : n < 31) (hx : x < 256) : zq_Wp zn_X6_add 0 [(0, .ref 6), (1, .int (nI x))] [] μ0 (fun r μ => r = none ∧ zq_fr [6, 7, 8, 9, 10] μ0 μ ∧ zTxt 6 31 4 (fun i => if i = n then x else b i) (n + 1) μ ∧ μ.1 6 4 = zdn (ztf (zok6 (fun i => if i = n then x else b i)) 4 (n + 1)) ∧ μ.1 6 5 = nI (ztm (zok6 (fun i => if i = n then x else b i)) 4 (n + 1)) ∧ ∀ e, e < ztm (zok6 (fun i => if i = n then x else b i)) 4 (n + 1) → μ.1 8 e = nI (zps (fun i => if i = n then x else b i) e) ∧ μ.1 9 e = nI (zpt (fun i => if i = n then x else b i) e) ∧ μ.1 10 e = nI (zpb (fun i => if i = n then x else b i) e)) := by
  have hn9 := hT0.1
  refine zq_go zt_X6_add 1 [] 1 [(0, .ref 6), (1, .int (nI x))] [.ref 6] μ0 rfl trivial ?_
  refine zq_call zt_X6_add [.ref 6] [] (zs_isFull6 hT0) rfl rfl ?_
  rintro _ _ ⟨rfl, rfl⟩
  refine zq_go zt_X6_add 1 [] (if ¬ (zB (decide (n = 31))) = 0 then 31 else 7) [(0, .ref 6), (1, .int (nI x))] [] μ0 rfl trivial ?_
  rw [if_neg (by rw [decide_eq_false (show ¬ n = 31 by omega)]; decide)]
  refine zq_go zt_X6_add 13 [vp_in (μ0.1 6 3) 35] 28 [(0, .ref 6), (1, .int (nI x))] [.ref 6] (zq_u1 (zq_u1 μ0 7 ((μ0.1 6 3).toNatClampNeg) (nI x)) 6 3 ((μ0.1 6 3) + (nI 1))) rfl ⟨zn_in (k := n) (by rw [hT0.2.2.2.1]) (by omega) (by decide), trivial⟩ ?_
  rw [hT0.2.2.2.1, zn_cl (n := n) (by omega), zn_add n 1]
  obtain ⟨μ1, hμ1⟩ : ∃ k9 : zq_Me, k9 = (zq_u1 (zq_u1 μ0 7 n (nI x)) 6 3 (nI (n + 1))) := ⟨_, rfl⟩
  rw [← hμ1]
  have f1 : zq_fr [6, 7, 8, 9, 10] μ0 μ1 := by rw [hμ1]; exact (zq_fr.rf.u1 (by simp)).u1 (by simp)
  have hT1 : zTxt 6 31 4 (fun i => if i = n then x else b i) (n + 1) μ1 := ⟨by omega, by rw [hμ1, zq_u1_o2 (by decide), zq_u1_ne (by decide)]; exact hT0.2.1, by rw [hμ1, zq_u1_o2 (by decide), zq_u1_ne (by decide)]; exact hT0.2.2.1, by rw [hμ1, zq_u1_s], fun i hi => by
    rw [hμ1, zq_u1_ne (by decide), zq_u1_rd]
    show (if i = n then nI x else μ0.1 7 i) = nI (if i = n then x else b i) ∧ (if i = n then x else b i) < 256
    by_cases h8 : i = n
    · rw [if_pos h8, if_pos h8]; exact ⟨rfl, hx⟩
    · rw [if_neg h8, if_neg h8]; exact hT0.2.2.2.2 i (by omega)⟩
  refine zq_call zt_X6_add [.ref 6] [] (zs_understand6 hT1) rfl rfl ?_
  rintro _ μ2 ⟨rfl, f2, hr⟩
  exact zq_retn zt_X6_add rfl rfl ⟨rfl, f1.tr (f2.wk (by simp +contextual)), hr⟩
set_option maxRecDepth 100000 in
set_option maxHeartbeats 4000000 in
theorem zs_shorten6 {b : Nat → Nat} {n k : Nat} {μ0 : zq_Me} (hT0 : zTxt 6 31 4 b n μ0) (hl : k < n) : zq_Wp zn_X6_shorten 0 [(0, .ref 6), (1, .int (nI k))] [] μ0 (fun r μ => r = none ∧ zq_fr [6, 8, 9, 10] μ0 μ ∧ zTxt 6 31 4 b k μ ∧ μ.1 6 4 = zdn (ztf (zok6 b) 4 k) ∧ μ.1 6 5 = nI (ztm (zok6 b) 4 k) ∧ ∀ e, e < ztm (zok6 b) 4 k → μ.1 8 e = nI (zps b e) ∧ μ.1 9 e = nI (zpt b e) ∧ μ.1 10 e = nI (zpb b e)) := by
  have hn9 := hT0.1
  refine zq_go zt_X6_shorten 2 [] (if (nI k) < 0 then 21 else 4) [(0, .ref 6), (1, .int (nI k))] [] μ0 rfl trivial ?_
  rw [if_neg (zn_notneg (by omega))]
  refine zq_go zt_X6_shorten 4 [] (if (μ0.1 6 3) ≤ (nI k) then 21 else 12) [(0, .ref 6), (1, .int (nI k))] [] μ0 rfl trivial ?_
  rw [hT0.2.2.2.1]
  rw [if_neg (by rw [zn_le (by omega) (by omega)]; omega)]
  refine zq_go zt_X6_shorten 4 [] 18 [(0, .ref 6), (1, .int (nI k))] [.ref 6] (zq_u1 μ0 6 3 (nI k)) rfl trivial ?_
  obtain ⟨μ1, hμ1⟩ : ∃ k9 : zq_Me, k9 = (zq_u1 μ0 6 3 (nI k)) := ⟨_, rfl⟩
  rw [← hμ1]
  have f1 : zq_fr [6, 8, 9, 10] μ0 μ1 := by rw [hμ1]; exact zq_fr.rf.u1 (by simp)
  have hT1 : zTxt 6 31 4 b k μ1 := ⟨by omega, by rw [hμ1, zq_u1_o2 (by decide)]; exact hT0.2.1, by rw [hμ1, zq_u1_o2 (by decide)]; exact hT0.2.2.1, by rw [hμ1, zq_u1_s], fun i hi => by
    rw [hμ1, zq_u1_ne (by decide)]
    exact hT0.2.2.2.2 i (by omega)⟩
  refine zq_call zt_X6_shorten [.ref 6] [] (zs_understand6 hT1) rfl rfl ?_
  rintro _ μ2 ⟨rfl, f2, hr⟩
  exact zq_retn zt_X6_shorten rfl rfl ⟨rfl, f1.tr (f2.wk (by simp +contextual)), hr⟩
set_option maxRecDepth 100000 in
set_option maxHeartbeats 4000000 in
theorem zs_shorten6_0 {b : Nat → Nat} {n k : Nat} {μ0 : zq_Me} (hT0 : zTxt 6 31 4 b n μ0) (hk : k < 2 ^ 31) (hl : n ≤ k) : zq_Wp zn_X6_shorten 0 [(0, .ref 6), (1, .int (nI k))] [] μ0 (fun r μ => r = none ∧ μ = μ0) := by
  have hn9 := hT0.1
  refine zq_go zt_X6_shorten 2 [] (if (nI k) < 0 then 21 else 4) [(0, .ref 6), (1, .int (nI k))] [] μ0 rfl trivial ?_
  rw [if_neg (zn_notneg (by omega))]
  refine zq_go zt_X6_shorten 4 [] (if (μ0.1 6 3) ≤ (nI k) then 21 else 12) [(0, .ref 6), (1, .int (nI k))] [] μ0 rfl trivial ?_
  rw [hT0.2.2.2.1]
  rw [if_pos (by rw [zn_le (by omega) (by omega)]; omega)]
  exact zq_retn zt_X6_shorten rfl rfl ⟨rfl, rfl⟩
