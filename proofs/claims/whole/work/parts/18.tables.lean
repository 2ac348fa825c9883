/-! ===== the class's tables: spans of hours with the same shut doors ===== -/
def zsp (S : Nat → Nat) : Nat → Nat
  | 0 => 0
  | h + 1 => zsp S h + (if S (h + 1) = S h then 0 else 1)
def zsq (S : Nat → Nat) : Nat → Nat
  | 0 => 0
  | h + 1 => zsp S h
theorem zsp_mono (S : Nat → Nat) {a b : Nat} (h : a ≤ b) : zsp S a ≤ zsp S b := by
  induction b with
  | zero => obtain rfl : a = 0 := by omega
            exact Nat.le_refl _
  | succ b ih =>
    by_cases hab : a ≤ b
    · have := ih hab
      show _ ≤ zsp S b + _
      omega
    · obtain rfl : a = b + 1 := by omega
      exact Nat.le_refl _
theorem zsp_eq (S : Nat → Nat) {a : Nat} : ∀ {b : Nat}, a ≤ b → zsp S a = zsp S b → S a = S b
  | 0, h, _ => by obtain rfl : a = 0 := by omega
                  rfl
  | b + 1, h, he => by
    by_cases hab : a ≤ b
    · have h1 := zsp_mono S hab
      have h2 : zsp S (b + 1) = zsp S b + (if S (b + 1) = S b then 0 else 1) := rfl
      by_cases hc : S (b + 1) = S b
      · rw [if_pos hc] at h2
        rw [hc]
        exact zsp_eq S hab (by omega)
      · rw [if_neg hc] at h2
        omega
    · obtain rfl : a = b + 1 := by omega
      rfl
/-- each span of which a mask is kept has the table of that mask -/
def zK33 (nd : Nat) (o1 o2 : Nat → Nat) (μ : zq_Me) : Prop := ∀ sp, sp < 9 → μ.1 39 sp = -1 ∨ ∃ mk, mk < 2 ^ 12 ∧ μ.1 39 sp = nI mk ∧ ∀ x t, x < 8 → t < 8 → μ.1 38 (sp * 64 + x * 8 + t) = nI (zg_n (zg_adj o1 o2 mk nd) t x)
theorem zK33.fr {nd : Nat} {o1 o2 : Nat → Nat} {μ μ1 : zq_Me} {S : List Nat} (h : zK33 nd o1 o2 μ) (hf : zq_fr S μ μ1) (hs : 38 ∉ S ∧ 39 ∉ S) : zK33 nd o1 o2 μ1 := fun sp hsp => by
  rw [hf.a hs.1, hf.a hs.2]; exact h sp hsp
set_option maxRecDepth 100000 in
set_option maxHeartbeats 4000000 in
theorem zs_lt33_t {Q : zq_Post} {nd h : Nat} {S o1 o2 : Nat → Nat} (hh : h < 24) (hsp : zsp S h ≤ 8) (sv : Int32) {μ0 : zq_Me} (hT0 : μ0.1 37 h = nI (zsp S h * 64)) (hB0 : ∀ x, x < 8 → μ0.1 5 x = nI (zm ((zg_adj o1 o2 (S h) nd) x) 8)) (kk : ∀ μ : zq_Me, (zq_fr [38] μ0 μ ∧ (∀ i x, i < 8 → x < 8 → μ.1 38 (zsp S h * 64 + x * 8 + i) = nI (zg_n (zg_adj o1 o2 (S h) nd) i x)) ∧ ∀ q, (q < zsp S h * 64 ∨ zsp S h * 64 + 64 ≤ q) → μ.1 38 q = μ0.1 38 q) → zq_Wp zn_X7_layTables 122 [(0, .ref 33), (1, .int sv), (2, .int (nI h))] [] μ Q) : ∀ (j t : Nat) (μ : zq_Me), t + j = 8 → (zq_fr [38] μ0 μ ∧ (∀ i x, i < t → x < 8 → μ.1 38 (zsp S h * 64 + x * 8 + i) = nI (zg_n (zg_adj o1 o2 (S h) nd) i x)) ∧ ∀ q, (q < zsp S h * 64 ∨ zsp S h * 64 + 64 ≤ q) → μ.1 38 q = μ0.1 38 q) → zq_Wp zn_X7_layTables 92 [(0, .ref 33), (1, .int sv), (2, .int (nI h)), (3, .int (nI t))] [] μ Q := by
  intro j
  induction j with
  | zero =>
    intro t μ hij hI
    obtain rfl : t = 8 := by omega
    refine zq_go zt_X7_layTables 3 [] (if (nI 8) ≤ (nI 8) then 122 else 98) [(0, .ref 33), (1, .int sv), (2, .int (nI h)), (3, .int (nI 8))] [] μ rfl trivial ?_
    rw [if_pos (by decide)]
    exact zq_drp [0, 1, 2] [(0, .ref 33), (1, .int sv), (2, .int (nI h))] rfl (kk μ hI)
  | succ j ih =>
    intro t μ hij hI
    have hT : μ.1 37 h = nI (zsp S h * 64) := by rw [hI.1.a (b := 37) (by decide)]; exact hT0
    have hB : ∀ x, x < 8 → μ.1 5 x = nI (zm ((zg_adj o1 o2 (S h) nd) x) 8) := fun x hx => by rw [hI.1.a (b := 5) (by decide)]; exact hB0 x hx
    refine zq_go zt_X7_layTables 3 [] (if (nI 8) ≤ (nI t) then 122 else 98) [(0, .ref 33), (1, .int sv), (2, .int (nI h)), (3, .int (nI t))] [] μ rfl trivial ?_
    rw [if_neg (by rw [zn_le (by omega) (by omega)]; omega)]
    refine zq_go zt_X7_layTables 9 [vp_in (nI h) 24] 113 [(0, .ref 33), (1, .int sv), (2, .int (nI h)), (3, .int (nI t))] [.int (μ.1 37 ((nI h).toNatClampNeg)), .ref 38, .int (nI t), .ref 1] μ rfl ⟨zn_in (k := h) rfl (by omega) (by decide), trivial⟩ ?_
    rw [zn_cl (n := h) (by omega), hT]
    refine zq_call zt_X7_layTables [.ref 1, .int (nI t), .ref 38, .int (nI (zsp S h * 64))] [] (zs_fs38 (fr := zsp S h * 64) (t := t) (by omega) (by omega) hB) rfl rfl ?_
    rintro _ μ1 ⟨rfl, hf, hn, ho⟩
    refine zq_go zt_X7_layTables 2 [] 92 [(0, .ref 33), (1, .int sv), (2, .int (nI h)), (3, .int ((nI t) + (nI 1)))] [] μ1 rfl trivial ?_
    rw [zn_add t 1]
    refine ih (t + 1) μ1 (by omega) ⟨hI.1.tr hf, fun i x hi hx => ?_, fun q hq => by rw [ho q (fun x hx => by omega)]; exact hI.2.2 q hq⟩
    by_cases h8 : i = t
    · subst h8; exact hn x hx
    · rw [ho _ (fun y hy => by omega)]; exact hI.2.1 i x (by omega) hx
set_option maxRecDepth 100000 in
set_option maxHeartbeats 4000000 in
theorem zs_lt33_h {Q : zq_Post} {nd : Nat} {S o1 o2 : Nat → Nat} (hsp : zsp S 23 ≤ 8) {μ0 : zq_Me} (hD0 : zD nd o1 o2 μ0) (hS0 : ∀ i, i < 24 → μ0.1 36 i = nI (S i) ∧ S i < 2 ^ 12) (kk : ∀ μ : zq_Me, (zq_fr [5, 37, 38, 39] μ0 μ ∧ zK33 nd o1 o2 μ ∧ ∀ i, i < 24 → μ.1 37 i = nI (zsp S i * 64) ∧ μ.1 39 (zsp S i) = nI (S i)) → zq_Wp zn_X7_layTables 128 [] [] μ Q) : ∀ (j h : Nat) (μ : zq_Me), h + j = 24 → (zq_fr [5, 37, 38, 39] μ0 μ ∧ zK33 nd o1 o2 μ ∧ ∀ i, i < h → μ.1 37 i = nI (zsp S i * 64) ∧ μ.1 39 (zsp S i) = nI (S i)) → zq_Wp zn_X7_layTables 4 [(0, .ref 33), (1, .int (nI (zsq S h))), (2, .int (nI h))] [] μ Q := by
  intro j
  induction j with
  | zero =>
    intro h μ hij hI
    obtain rfl : h = 24 := by omega
    refine zq_go zt_X7_layTables 3 [] (if (nI 24) ≤ (nI 24) then 128 else 10) [(0, .ref 33), (1, .int (nI (zsq S 24))), (2, .int (nI 24))] [] μ rfl trivial ?_
    rw [if_pos (by decide)]
    exact zq_drp [] [] rfl (kk μ hI)
  | succ j ih =>
    intro h μ hij hI
    have hS : ∀ i, i < 24 → μ.1 36 i = nI (S i) := fun i hi => by rw [hI.1.a (b := 36) (by decide)]; exact (hS0 i hi).1
    have hb := fun i hi => (hS0 i hi).2
    have hbh := hb h (by omega)
    have hle := zsp_mono S (a := h) (b := 23) (by omega)
    have hD := hD0.fr hI.1 (by decide)
    have key : zq_Wp zn_X7_layTables 40 [(0, .ref 33), (1, .int (nI (zsp S h))), (2, .int (nI h))] [] μ Q := by
      refine zq_go zt_X7_layTables 7 [vp_in (nI h) 24] 50 [(0, .ref 33), (1, .int (nI (zsp S h))), (2, .int (nI h))] [] (zq_u1 μ 37 ((nI h).toNatClampNeg) ((nI (zsp S h)) * (nI 64))) rfl ⟨zn_in (k := h) rfl (by omega) (by decide), trivial⟩ ?_
      rw [zn_mul (zsp S h) 64, zn_cl (n := h) (by omega)]
      obtain ⟨μ1, hμ1⟩ : ∃ m, m = zq_u1 μ 37 h (nI (zsp S h * 64)) := ⟨_, rfl⟩
      rw [← hμ1]
      have f1 : zq_fr [5, 37, 38, 39] μ μ1 := by rw [hμ1]; exact zq_fr.rf.u1 (by simp)
      have t1 : ∀ i, i ≠ h → μ1.1 37 i = μ.1 37 i := fun i hi => by rw [hμ1]; exact zq_u1_o2 hi
      have t2 : μ1.1 37 h = nI (zsp S h * 64) := by rw [hμ1]; exact zq_u1_s
      have r1 : ∀ b, b ≠ 37 → μ1.1 b = μ.1 b := fun b hb => by rw [hμ1]; exact zq_u1_ne hb
      have hS1 : ∀ i, i < 24 → μ1.1 36 i = nI (S i) := fun i hi => by rw [r1 36 (by decide)]; exact hS i hi
      have hK1 : zK33 nd o1 o2 μ1 := fun sp hsp => by rw [r1 39 (by decide), r1 38 (by decide)]; exact hI.2.1 sp hsp
      refine zq_go zt_X7_layTables 9 [vp_in (nI (zsp S h)) 9, vp_in (nI h) 24] (if (μ1.1 39 ((nI (zsp S h)).toNatClampNeg)) = (μ1.1 36 ((nI h).toNatClampNeg)) then 122 else 65) [(0, .ref 33), (1, .int (nI (zsp S h))), (2, .int (nI h))] [] μ1 rfl ⟨zn_in (k := zsp S h) rfl (by omega) (by decide), ⟨zn_in (k := h) rfl (by omega) (by decide), trivial⟩⟩ ?_
      rw [zn_cl (n := zsp S h) (by omega), zn_cl (n := h) (by omega), hS1 h (by omega)]
      refine zq_ite (fun h28 => ?_) (fun h28 => ?_)
      · refine zq_go zt_X7_layTables 2 [] 4 [(0, .ref 33), (1, .int (nI (zsp S h))), (2, .int ((nI h) + (nI 1)))] [] μ1 rfl trivial ?_
        rw [zn_add h 1]
        refine ih (h + 1) μ1 (by omega) ⟨hI.1.tr f1, hK1, fun i hi => ?_⟩
        by_cases h8 : i = h
        · subst h8; exact ⟨t2, h28⟩
        · rw [t1 i h8, r1 39 (by decide)]; exact hI.2.2 i (by omega)
      · refine zq_go zt_X7_layTables 14 [vp_in (nI h) 24, vp_in (nI (zsp S h)) 9, vp_in (nI h) 24] 87 [(0, .ref 33), (1, .int (nI (zsp S h))), (2, .int (nI h))] [.int (μ1.1 36 ((nI h).toNatClampNeg)), .ref 1] (zq_u1 μ1 39 ((nI (zsp S h)).toNatClampNeg) (μ1.1 36 ((nI h).toNatClampNeg))) rfl ⟨zn_in (k := h) rfl (by omega) (by decide), ⟨zn_in (k := zsp S h) rfl (by omega) (by decide), ⟨zn_in (k := h) rfl (by omega) (by decide), trivial⟩⟩⟩ ?_
        rw [zn_cl (n := h) (by omega), hS1 h (by omega), zn_cl (n := zsp S h) (by omega)]
        obtain ⟨μ2, hμ2⟩ : ∃ m, m = zq_u1 μ1 39 (zsp S h) (nI (S h)) := ⟨_, rfl⟩
        rw [← hμ2]
        have f2 : zq_fr [5, 37, 38, 39] μ1 μ2 := by rw [hμ2]; exact zq_fr.rf.u1 (by simp)
        have s1 : ∀ i, i ≠ zsp S h → μ2.1 39 i = μ1.1 39 i := fun i hi => by rw [hμ2]; exact zq_u1_o2 hi
        have s2 : μ2.1 39 (zsp S h) = nI (S h) := by rw [hμ2]; exact zq_u1_s
        have r2 : ∀ b, b ≠ 39 → μ2.1 b = μ1.1 b := fun b hb => by rw [hμ2]; exact zq_u1_ne hb
        refine zq_call zt_X7_layTables [.ref 1, .int (nI (S h))] [] (zs_open (hD.fr (f1.tr f2) (by decide)) (Nat.lt_trans hbh (by decide))) rfl rfl ?_
        rintro _ μ3 ⟨rfl, f3, hB⟩
        have t3 : μ3.1 37 h = nI (zsp S h * 64) := by rw [f3.a (b := 37) (by decide), r2 37 (by decide)]; exact t2
        refine zq_go zt_X7_layTables 2 [] 92 [(0, .ref 33), (1, .int (nI (zsp S h))), (2, .int (nI h)), (3, .int (nI 0))] [] μ3 rfl trivial ?_
        refine zs_lt33_t (by omega) (show zsp S h ≤ 8 by omega) (nI (zsp S h)) t3 hB (fun μ4 hJ => ?_) 8 0 μ3 (by omega) ⟨zq_fr.rf, fun i x hi _ => absurd hi (Nat.not_lt_zero i), fun _ _ => rfl⟩
        refine zq_go zt_X7_layTables 2 [] 4 [(0, .ref 33), (1, .int (nI (zsp S h))), (2, .int ((nI h) + (nI 1)))] [] μ4 rfl trivial ?_
        rw [zn_add h 1]
        have g1 : μ4.1 39 = μ2.1 39 := by rw [hJ.1.a (b := 39) (by decide), f3.a (b := 39) (by decide)]
        have g2 : ∀ q, (q < zsp S h * 64 ∨ zsp S h * 64 + 64 ≤ q) → μ4.1 38 q = μ1.1 38 q := fun q hq => by rw [hJ.2.2 q hq, f3.a (b := 38) (by decide), r2 38 (by decide)]
        have g3 : μ4.1 37 = μ1.1 37 := by rw [hJ.1.a (b := 37) (by decide), f3.a (b := 37) (by decide), r2 37 (by decide)]
        refine ih (h + 1) μ4 (by omega) ⟨((hI.1.tr f1).tr f2).tr ((f3.wk (by simp)).tr (hJ.1.wk (by simp))), fun sp hsp => ?_, fun i hi => ?_⟩
        · by_cases h8 : sp = zsp S h
          · refine Or.inr ⟨S h, hbh, by rw [g1, h8]; exact s2, fun x t hx ht => ?_⟩
            rw [h8]; exact hJ.2.1 t x ht hx
          · rw [g1, s1 sp h8]
            rcases hK1 sp hsp with q | ⟨mk, q1, q2, q3⟩
            · exact Or.inl q
            · exact Or.inr ⟨mk, q1, q2, fun x t hx ht => by rw [g2 _ (by omega)]; exact q3 x t hx ht⟩
        · rw [g3, g1]
          by_cases h8 : i = h
          · subst h8; exact ⟨t2, s2⟩
          · refine ⟨by rw [t1 i h8]; exact (hI.2.2 i (by omega)).1, ?_⟩
            by_cases h7 : zsp S i = zsp S h
            · rw [h7, s2, zsp_eq S (by omega) h7]
            · rw [s1 _ h7, r1 39 (by decide)]; exact (hI.2.2 i (by omega)).2
    refine zq_go zt_X7_layTables 3 [] (if (nI 24) ≤ (nI h) then 128 else 10) [(0, .ref 33), (1, .int (nI (zsq S h))), (2, .int (nI h))] [] μ rfl trivial ?_
    rw [if_neg (by rw [zn_le (by omega) (by omega)]; omega)]
    refine zq_go zt_X7_layTables 2 [] (if (nI h) ≤ 0 then 40 else 14) [(0, .ref 33), (1, .int (nI (zsq S h))), (2, .int (nI h))] [] μ rfl trivial ?_
    refine zq_ite (fun h71 => ?_) (fun h71 => ?_)
    · have h9 : h = 0 := by
        rw [show (0 : Int32) = nI 0 from rfl, zn_le (by omega) (by omega)] at h71
        omega
      subst h9
      exact key
    · rw [show (0 : Int32) = nI 0 from rfl, zn_le (by omega) (by omega)] at h71
      obtain ⟨h2, rfl⟩ : ∃ h2, h = h2 + 1 := ⟨h - 1, by omega⟩
      show zq_Wp zn_X7_layTables 14 [(0, .ref 33), (1, .int (nI (zsp S h2))), (2, .int (nI (h2 + 1)))] [] μ Q
      refine zq_go zt_X7_layTables 9 [vp_in (nI (h2 + 1)) 24] 27 [(0, .ref 33), (1, .int (nI (zsp S h2))), (2, .int (nI (h2 + 1)))] [.int ((nI (h2 + 1)) - (nI 1)), .ref 36, .int (μ.1 36 ((nI (h2 + 1)).toNatClampNeg))] μ rfl ⟨zn_in (k := h2 + 1) rfl (by omega) (by decide), trivial⟩ ?_
      rw [zn_cl (n := h2 + 1) (by omega), hS (h2 + 1) (by omega)]
      rw [zn_sub (a := h2 + 1) (b := 1) (by omega), Nat.add_sub_cancel]
      refine zq_go zt_X7_layTables 2 [vp_in (nI h2) 24] (if (nI (S (h2 + 1))) = (μ.1 36 ((nI h2).toNatClampNeg)) then 40 else 31) [(0, .ref 33), (1, .int (nI (zsp S h2))), (2, .int (nI (h2 + 1)))] [] μ rfl ⟨zn_in (k := h2) rfl (by omega) (by decide), trivial⟩ ?_
      rw [zn_cl (n := h2) (by omega), hS h2 (by omega)]
      have hbh2 := hb h2 (by omega)
      refine zq_ite (fun h86 => ?_) (fun h86 => ?_)
      · have h9 : S (h2 + 1) = S h2 := by rwa [zn_eq (by omega) (by omega)] at h86
        rw [show zsp S (h2 + 1) = zsp S h2 from by show zsp S h2 + _ = _; rw [if_pos h9]; rfl] at key
        exact key
      · have h9 : ¬ S (h2 + 1) = S h2 := by rwa [zn_eq (by omega) (by omega)] at h86
        have h7 : zsp S (h2 + 1) = zsp S h2 + 1 := by show zsp S h2 + _ = _; rw [if_neg h9]
        refine zq_go zt_X7_layTables 3 [] (if (nI 8) ≤ (nI (zsp S h2)) then 40 else 37) [(0, .ref 33), (1, .int (nI (zsp S h2))), (2, .int (nI (h2 + 1)))] [] μ rfl trivial ?_
        rw [if_neg (by rw [zn_le (by omega) (by omega)]; omega)]
        refine zq_go zt_X7_layTables 1 [] 40 [(0, .ref 33), (1, .int ((nI (zsp S h2)) + (nI 1))), (2, .int (nI (h2 + 1)))] [] μ rfl trivial ?_
        rw [zn_add (zsp S h2) 1]
        rw [h7] at key
        exact key
set_option maxRecDepth 100000 in
set_option maxHeartbeats 4000000 in
theorem zs_lt33 {nd : Nat} {S o1 o2 : Nat → Nat} (hsp : zsp S 23 ≤ 8) {μ0 : zq_Me} (hD0 : zD nd o1 o2 μ0) (hS0 : ∀ i, i < 24 → μ0.1 36 i = nI (S i) ∧ S i < 2 ^ 12) (hK0 : zK33 nd o1 o2 μ0) : zq_Wp zn_X7_layTables 0 [(0, .ref 33)] [] μ0 (fun r μ => r = none ∧ (zq_fr [5, 37, 38, 39] μ0 μ ∧ zK33 nd o1 o2 μ ∧ ∀ i, i < 24 → μ.1 37 i = nI (zsp S i * 64) ∧ μ.1 39 (zsp S i) = nI (S i))) := by
  refine zq_go zt_X7_layTables 4 [] 4 [(0, .ref 33), (1, .int (nI 0)), (2, .int (nI 0))] [] μ0 rfl trivial ?_
  refine zs_lt33_h hsp hD0 hS0 (fun μ1 hI => ?_) 24 0 μ0 (by omega) ⟨zq_fr.rf, hK0, fun i hi => absurd hi (Nat.not_lt_zero i)⟩
  exact zq_retn zt_X7_layTables rfl rfl ⟨rfl, hI⟩
/-- each span of which a mask is kept has the table of that mask -/
def zK40 (nd : Nat) (o1 o2 : Nat → Nat) (μ : zq_Me) : Prop := ∀ sp, sp < 9 → μ.1 46 sp = -1 ∨ ∃ mk, mk < 2 ^ 12 ∧ μ.1 46 sp = nI mk ∧ ∀ x t, x < 8 → t < 8 → μ.1 45 (sp * 64 + x * 8 + t) = nI (zg_n (zg_adj o1 o2 mk nd) t x)
theorem zK40.fr {nd : Nat} {o1 o2 : Nat → Nat} {μ μ1 : zq_Me} {S : List Nat} (h : zK40 nd o1 o2 μ) (hf : zq_fr S μ μ1) (hs : 45 ∉ S ∧ 46 ∉ S) : zK40 nd o1 o2 μ1 := fun sp hsp => by
  rw [hf.a hs.1, hf.a hs.2]; exact h sp hsp
set_option maxRecDepth 100000 in
set_option maxHeartbeats 4000000 in
theorem zs_lt40_t {Q : zq_Post} {nd h : Nat} {S o1 o2 : Nat → Nat} (hh : h < 24) (hsp : zsp S h ≤ 8) (sv : Int32) {μ0 : zq_Me} (hT0 : μ0.1 44 h = nI (zsp S h * 64)) (hB0 : ∀ x, x < 8 → μ0.1 5 x = nI (zm ((zg_adj o1 o2 (S h) nd) x) 8)) (kk : ∀ μ : zq_Me, (zq_fr [45] μ0 μ ∧ (∀ i x, i < 8 → x < 8 → μ.1 45 (zsp S h * 64 + x * 8 + i) = nI (zg_n (zg_adj o1 o2 (S h) nd) i x)) ∧ ∀ q, (q < zsp S h * 64 ∨ zsp S h * 64 + 64 ≤ q) → μ.1 45 q = μ0.1 45 q) → zq_Wp zn_X7_layTables 122 [(0, .ref 40), (1, .int sv), (2, .int (nI h))] [] μ Q) : ∀ (j t : Nat) (μ : zq_Me), t + j = 8 → (zq_fr [45] μ0 μ ∧ (∀ i x, i < t → x < 8 → μ.1 45 (zsp S h * 64 + x * 8 + i) = nI (zg_n (zg_adj o1 o2 (S h) nd) i x)) ∧ ∀ q, (q < zsp S h * 64 ∨ zsp S h * 64 + 64 ≤ q) → μ.1 45 q = μ0.1 45 q) → zq_Wp zn_X7_layTables 92 [(0, .ref 40), (1, .int sv), (2, .int (nI h)), (3, .int (nI t))] [] μ Q := by
  intro j
  induction j with
  | zero =>
    intro t μ hij hI
    obtain rfl : t = 8 := by omega
    refine zq_go zt_X7_layTables 3 [] (if (nI 8) ≤ (nI 8) then 122 else 98) [(0, .ref 40), (1, .int sv), (2, .int (nI h)), (3, .int (nI 8))] [] μ rfl trivial ?_
    rw [if_pos (by decide)]
    exact zq_drp [0, 1, 2] [(0, .ref 40), (1, .int sv), (2, .int (nI h))] rfl (kk μ hI)
  | succ j ih =>
    intro t μ hij hI
    have hT : μ.1 44 h = nI (zsp S h * 64) := by rw [hI.1.a (b := 44) (by decide)]; exact hT0
    have hB : ∀ x, x < 8 → μ.1 5 x = nI (zm ((zg_adj o1 o2 (S h) nd) x) 8) := fun x hx => by rw [hI.1.a (b := 5) (by decide)]; exact hB0 x hx
    refine zq_go zt_X7_layTables 3 [] (if (nI 8) ≤ (nI t) then 122 else 98) [(0, .ref 40), (1, .int sv), (2, .int (nI h)), (3, .int (nI t))] [] μ rfl trivial ?_
    rw [if_neg (by rw [zn_le (by omega) (by omega)]; omega)]
    refine zq_go zt_X7_layTables 9 [vp_in (nI h) 24] 113 [(0, .ref 40), (1, .int sv), (2, .int (nI h)), (3, .int (nI t))] [.int (μ.1 44 ((nI h).toNatClampNeg)), .ref 45, .int (nI t), .ref 1] μ rfl ⟨zn_in (k := h) rfl (by omega) (by decide), trivial⟩ ?_
    rw [zn_cl (n := h) (by omega), hT]
    refine zq_call zt_X7_layTables [.ref 1, .int (nI t), .ref 45, .int (nI (zsp S h * 64))] [] (zs_fs45 (fr := zsp S h * 64) (t := t) (by omega) (by omega) hB) rfl rfl ?_
    rintro _ μ1 ⟨rfl, hf, hn, ho⟩
    refine zq_go zt_X7_layTables 2 [] 92 [(0, .ref 40), (1, .int sv), (2, .int (nI h)), (3, .int ((nI t) + (nI 1)))] [] μ1 rfl trivial ?_
    rw [zn_add t 1]
    refine ih (t + 1) μ1 (by omega) ⟨hI.1.tr hf, fun i x hi hx => ?_, fun q hq => by rw [ho q (fun x hx => by omega)]; exact hI.2.2 q hq⟩
    by_cases h8 : i = t
    · subst h8; exact hn x hx
    · rw [ho _ (fun y hy => by omega)]; exact hI.2.1 i x (by omega) hx
set_option maxRecDepth 100000 in
set_option maxHeartbeats 4000000 in
theorem zs_lt40_h {Q : zq_Post} {nd : Nat} {S o1 o2 : Nat → Nat} (hsp : zsp S 23 ≤ 8) {μ0 : zq_Me} (hD0 : zD nd o1 o2 μ0) (hS0 : ∀ i, i < 24 → μ0.1 43 i = nI (S i) ∧ S i < 2 ^ 12) (kk : ∀ μ : zq_Me, (zq_fr [5, 44, 45, 46] μ0 μ ∧ zK40 nd o1 o2 μ ∧ ∀ i, i < 24 → μ.1 44 i = nI (zsp S i * 64) ∧ μ.1 46 (zsp S i) = nI (S i)) → zq_Wp zn_X7_layTables 128 [] [] μ Q) : ∀ (j h : Nat) (μ : zq_Me), h + j = 24 → (zq_fr [5, 44, 45, 46] μ0 μ ∧ zK40 nd o1 o2 μ ∧ ∀ i, i < h → μ.1 44 i = nI (zsp S i * 64) ∧ μ.1 46 (zsp S i) = nI (S i)) → zq_Wp zn_X7_layTables 4 [(0, .ref 40), (1, .int (nI (zsq S h))), (2, .int (nI h))] [] μ Q := by
  intro j
  induction j with
  | zero =>
    intro h μ hij hI
    obtain rfl : h = 24 := by omega
    refine zq_go zt_X7_layTables 3 [] (if (nI 24) ≤ (nI 24) then 128 else 10) [(0, .ref 40), (1, .int (nI (zsq S 24))), (2, .int (nI 24))] [] μ rfl trivial ?_
    rw [if_pos (by decide)]
    exact zq_drp [] [] rfl (kk μ hI)
  | succ j ih =>
    intro h μ hij hI
    have hS : ∀ i, i < 24 → μ.1 43 i = nI (S i) := fun i hi => by rw [hI.1.a (b := 43) (by decide)]; exact (hS0 i hi).1
    have hb := fun i hi => (hS0 i hi).2
    have hbh := hb h (by omega)
    have hle := zsp_mono S (a := h) (b := 23) (by omega)
    have hD := hD0.fr hI.1 (by decide)
    have key : zq_Wp zn_X7_layTables 40 [(0, .ref 40), (1, .int (nI (zsp S h))), (2, .int (nI h))] [] μ Q := by
      refine zq_go zt_X7_layTables 7 [vp_in (nI h) 24] 50 [(0, .ref 40), (1, .int (nI (zsp S h))), (2, .int (nI h))] [] (zq_u1 μ 44 ((nI h).toNatClampNeg) ((nI (zsp S h)) * (nI 64))) rfl ⟨zn_in (k := h) rfl (by omega) (by decide), trivial⟩ ?_
      rw [zn_mul (zsp S h) 64, zn_cl (n := h) (by omega)]
      obtain ⟨μ1, hμ1⟩ : ∃ m, m = zq_u1 μ 44 h (nI (zsp S h * 64)) := ⟨_, rfl⟩
      rw [← hμ1]
      have f1 : zq_fr [5, 44, 45, 46] μ μ1 := by rw [hμ1]; exact zq_fr.rf.u1 (by simp)
      have t1 : ∀ i, i ≠ h → μ1.1 44 i = μ.1 44 i := fun i hi => by rw [hμ1]; exact zq_u1_o2 hi
      have t2 : μ1.1 44 h = nI (zsp S h * 64) := by rw [hμ1]; exact zq_u1_s
      have r1 : ∀ b, b ≠ 44 → μ1.1 b = μ.1 b := fun b hb => by rw [hμ1]; exact zq_u1_ne hb
      have hS1 : ∀ i, i < 24 → μ1.1 43 i = nI (S i) := fun i hi => by rw [r1 43 (by decide)]; exact hS i hi
      have hK1 : zK40 nd o1 o2 μ1 := fun sp hsp => by rw [r1 46 (by decide), r1 45 (by decide)]; exact hI.2.1 sp hsp
      refine zq_go zt_X7_layTables 9 [vp_in (nI (zsp S h)) 9, vp_in (nI h) 24] (if (μ1.1 46 ((nI (zsp S h)).toNatClampNeg)) = (μ1.1 43 ((nI h).toNatClampNeg)) then 122 else 65) [(0, .ref 40), (1, .int (nI (zsp S h))), (2, .int (nI h))] [] μ1 rfl ⟨zn_in (k := zsp S h) rfl (by omega) (by decide), ⟨zn_in (k := h) rfl (by omega) (by decide), trivial⟩⟩ ?_
      rw [zn_cl (n := zsp S h) (by omega), zn_cl (n := h) (by omega), hS1 h (by omega)]
      refine zq_ite (fun h28 => ?_) (fun h28 => ?_)
      · refine zq_go zt_X7_layTables 2 [] 4 [(0, .ref 40), (1, .int (nI (zsp S h))), (2, .int ((nI h) + (nI 1)))] [] μ1 rfl trivial ?_
        rw [zn_add h 1]
        refine ih (h + 1) μ1 (by omega) ⟨hI.1.tr f1, hK1, fun i hi => ?_⟩
        by_cases h8 : i = h
        · subst h8; exact ⟨t2, h28⟩
        · rw [t1 i h8, r1 46 (by decide)]; exact hI.2.2 i (by omega)
      · refine zq_go zt_X7_layTables 14 [vp_in (nI h) 24, vp_in (nI (zsp S h)) 9, vp_in (nI h) 24] 87 [(0, .ref 40), (1, .int (nI (zsp S h))), (2, .int (nI h))] [.int (μ1.1 43 ((nI h).toNatClampNeg)), .ref 1] (zq_u1 μ1 46 ((nI (zsp S h)).toNatClampNeg) (μ1.1 43 ((nI h).toNatClampNeg))) rfl ⟨zn_in (k := h) rfl (by omega) (by decide), ⟨zn_in (k := zsp S h) rfl (by omega) (by decide), ⟨zn_in (k := h) rfl (by omega) (by decide), trivial⟩⟩⟩ ?_
        rw [zn_cl (n := h) (by omega), hS1 h (by omega), zn_cl (n := zsp S h) (by omega)]
        obtain ⟨μ2, hμ2⟩ : ∃ m, m = zq_u1 μ1 46 (zsp S h) (nI (S h)) := ⟨_, rfl⟩
        rw [← hμ2]
        have f2 : zq_fr [5, 44, 45, 46] μ1 μ2 := by rw [hμ2]; exact zq_fr.rf.u1 (by simp)
        have s1 : ∀ i, i ≠ zsp S h → μ2.1 46 i = μ1.1 46 i := fun i hi => by rw [hμ2]; exact zq_u1_o2 hi
        have s2 : μ2.1 46 (zsp S h) = nI (S h) := by rw [hμ2]; exact zq_u1_s
        have r2 : ∀ b, b ≠ 46 → μ2.1 b = μ1.1 b := fun b hb => by rw [hμ2]; exact zq_u1_ne hb
        refine zq_call zt_X7_layTables [.ref 1, .int (nI (S h))] [] (zs_open (hD.fr (f1.tr f2) (by decide)) (Nat.lt_trans hbh (by decide))) rfl rfl ?_
        rintro _ μ3 ⟨rfl, f3, hB⟩
        have t3 : μ3.1 44 h = nI (zsp S h * 64) := by rw [f3.a (b := 44) (by decide), r2 44 (by decide)]; exact t2
        refine zq_go zt_X7_layTables 2 [] 92 [(0, .ref 40), (1, .int (nI (zsp S h))), (2, .int (nI h)), (3, .int (nI 0))] [] μ3 rfl trivial ?_
        refine zs_lt40_t (by omega) (show zsp S h ≤ 8 by omega) (nI (zsp S h)) t3 hB (fun μ4 hJ => ?_) 8 0 μ3 (by omega) ⟨zq_fr.rf, fun i x hi _ => absurd hi (Nat.not_lt_zero i), fun _ _ => rfl⟩
        refine zq_go zt_X7_layTables 2 [] 4 [(0, .ref 40), (1, .int (nI (zsp S h))), (2, .int ((nI h) + (nI 1)))] [] μ4 rfl trivial ?_
        rw [zn_add h 1]
        have g1 : μ4.1 46 = μ2.1 46 := by rw [hJ.1.a (b := 46) (by decide), f3.a (b := 46) (by decide)]
        have g2 : ∀ q, (q < zsp S h * 64 ∨ zsp S h * 64 + 64 ≤ q) → μ4.1 45 q = μ1.1 45 q := fun q hq => by rw [hJ.2.2 q hq, f3.a (b := 45) (by decide), r2 45 (by decide)]
        have g3 : μ4.1 44 = μ1.1 44 := by rw [hJ.1.a (b := 44) (by decide), f3.a (b := 44) (by decide), r2 44 (by decide)]
        refine ih (h + 1) μ4 (by omega) ⟨((hI.1.tr f1).tr f2).tr ((f3.wk (by simp)).tr (hJ.1.wk (by simp))), fun sp hsp => ?_, fun i hi => ?_⟩
        · by_cases h8 : sp = zsp S h
          · refine Or.inr ⟨S h, hbh, by rw [g1, h8]; exact s2, fun x t hx ht => ?_⟩
            rw [h8]; exact hJ.2.1 t x ht hx
          · rw [g1, s1 sp h8]
            rcases hK1 sp hsp with q | ⟨mk, q1, q2, q3⟩
            · exact Or.inl q
            · exact Or.inr ⟨mk, q1, q2, fun x t hx ht => by rw [g2 _ (by omega)]; exact q3 x t hx ht⟩
        · rw [g3, g1]
          by_cases h8 : i = h
          · subst h8; exact ⟨t2, s2⟩
          · refine ⟨by rw [t1 i h8]; exact (hI.2.2 i (by omega)).1, ?_⟩
            by_cases h7 : zsp S i = zsp S h
            · rw [h7, s2, zsp_eq S (by omega) h7]
            · rw [s1 _ h7, r1 46 (by decide)]; exact (hI.2.2 i (by omega)).2
    refine zq_go zt_X7_layTables 3 [] (if (nI 24) ≤ (nI h) then 128 else 10) [(0, .ref 40), (1, .int (nI (zsq S h))), (2, .int (nI h))] [] μ rfl trivial ?_
    rw [if_neg (by rw [zn_le (by omega) (by omega)]; omega)]
    refine zq_go zt_X7_layTables 2 [] (if (nI h) ≤ 0 then 40 else 14) [(0, .ref 40), (1, .int (nI (zsq S h))), (2, .int (nI h))] [] μ rfl trivial ?_
    refine zq_ite (fun h71 => ?_) (fun h71 => ?_)
    · have h9 : h = 0 := by
        rw [show (0 : Int32) = nI 0 from rfl, zn_le (by omega) (by omega)] at h71
        omega
      subst h9
      exact key
    · rw [show (0 : Int32) = nI 0 from rfl, zn_le (by omega) (by omega)] at h71
      obtain ⟨h2, rfl⟩ : ∃ h2, h = h2 + 1 := ⟨h - 1, by omega⟩
      show zq_Wp zn_X7_layTables 14 [(0, .ref 40), (1, .int (nI (zsp S h2))), (2, .int (nI (h2 + 1)))] [] μ Q
      refine zq_go zt_X7_layTables 9 [vp_in (nI (h2 + 1)) 24] 27 [(0, .ref 40), (1, .int (nI (zsp S h2))), (2, .int (nI (h2 + 1)))] [.int ((nI (h2 + 1)) - (nI 1)), .ref 43, .int (μ.1 43 ((nI (h2 + 1)).toNatClampNeg))] μ rfl ⟨zn_in (k := h2 + 1) rfl (by omega) (by decide), trivial⟩ ?_
      rw [zn_cl (n := h2 + 1) (by omega), hS (h2 + 1) (by omega)]
      rw [zn_sub (a := h2 + 1) (b := 1) (by omega), Nat.add_sub_cancel]
      refine zq_go zt_X7_layTables 2 [vp_in (nI h2) 24] (if (nI (S (h2 + 1))) = (μ.1 43 ((nI h2).toNatClampNeg)) then 40 else 31) [(0, .ref 40), (1, .int (nI (zsp S h2))), (2, .int (nI (h2 + 1)))] [] μ rfl ⟨zn_in (k := h2) rfl (by omega) (by decide), trivial⟩ ?_
      rw [zn_cl (n := h2) (by omega), hS h2 (by omega)]
      have hbh2 := hb h2 (by omega)
      refine zq_ite (fun h86 => ?_) (fun h86 => ?_)
      · have h9 : S (h2 + 1) = S h2 := by rwa [zn_eq (by omega) (by omega)] at h86
        rw [show zsp S (h2 + 1) = zsp S h2 from by show zsp S h2 + _ = _; rw [if_pos h9]; rfl] at key
        exact key
      · have h9 : ¬ S (h2 + 1) = S h2 := by rwa [zn_eq (by omega) (by omega)] at h86
        have h7 : zsp S (h2 + 1) = zsp S h2 + 1 := by show zsp S h2 + _ = _; rw [if_neg h9]
        refine zq_go zt_X7_layTables 3 [] (if (nI 8) ≤ (nI (zsp S h2)) then 40 else 37) [(0, .ref 40), (1, .int (nI (zsp S h2))), (2, .int (nI (h2 + 1)))] [] μ rfl trivial ?_
        rw [if_neg (by rw [zn_le (by omega) (by omega)]; omega)]
        refine zq_go zt_X7_layTables 1 [] 40 [(0, .ref 40), (1, .int ((nI (zsp S h2)) + (nI 1))), (2, .int (nI (h2 + 1)))] [] μ rfl trivial ?_
        rw [zn_add (zsp S h2) 1]
        rw [h7] at key
        exact key
set_option maxRecDepth 100000 in
set_option maxHeartbeats 4000000 in
theorem zs_lt40 {nd : Nat} {S o1 o2 : Nat → Nat} (hsp : zsp S 23 ≤ 8) {μ0 : zq_Me} (hD0 : zD nd o1 o2 μ0) (hS0 : ∀ i, i < 24 → μ0.1 43 i = nI (S i) ∧ S i < 2 ^ 12) (hK0 : zK40 nd o1 o2 μ0) : zq_Wp zn_X7_layTables 0 [(0, .ref 40)] [] μ0 (fun r μ => r = none ∧ (zq_fr [5, 44, 45, 46] μ0 μ ∧ zK40 nd o1 o2 μ ∧ ∀ i, i < 24 → μ.1 44 i = nI (zsp S i * 64) ∧ μ.1 46 (zsp S i) = nI (S i))) := by
  refine zq_go zt_X7_layTables 4 [] 4 [(0, .ref 40), (1, .int (nI 0)), (2, .int (nI 0))] [] μ0 rfl trivial ?_
  refine zs_lt40_h hsp hD0 hS0 (fun μ1 hI => ?_) 24 0 μ0 (by omega) ⟨zq_fr.rf, hK0, fun i hi => absurd hi (Nat.not_lt_zero i)⟩
  exact zq_retn zt_X7_layTables rfl rfl ⟨rfl, hI⟩
