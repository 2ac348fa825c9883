/-! ===== what befalls, hour by hour: the ham (0 none, a room and 1), the doors that are shut (bits) ===== -/
def zh_e (ek eh en : Nat → Nat) (wo h : Nat) : Nat → Nat × Nat → Nat × Nat
  | 0, s => s
  | e + 1, s => if eh e = h ∧ wo.testBit e = false then (if ek e = 0 then (en e + 1, (zh_e ek eh en wo h e s).2) else ((zh_e ek eh en wo h e s).1, (zh_e ek eh en wo h e s).2 ||| 2 ^ en e)) else zh_e ek eh en wo h e s
def zh (ek eh en : Nat → Nat) (wo ne : Nat) : Nat → Nat × Nat
  | 0 => (0, 0)
  | h + 1 => zh_e ek eh en wo h ne (zh ek eh en wo ne h)
/-- events in a row of their own: how many (at a cell, a slot), kinds, hours, numbers -/
def zEv (cs sl ck ch cn ne : Nat) (ek eh en : Nat → Nat) (μ : zq_Me) : Prop := ne ≤ 9 ∧ μ.1 cs sl = nI ne ∧ ∀ e, e < ne → μ.1 ck e = nI (ek e) ∧ μ.1 ch e = nI (eh e) ∧ μ.1 cn e = nI (en e) ∧ ek e ≤ 1 ∧ eh e < 24 ∧ en e < 12 ∧ (ek e = 0 → en e < 8)
theorem zEv.fr {cs sl ck ch cn ne : Nat} {ek eh en : Nat → Nat} {μ μ1 : zq_Me} {S : List Nat} (h : zEv cs sl ck ch cn ne ek eh en μ) (hf : zq_fr S μ μ1) (hs : cs ∉ S ∧ ck ∉ S ∧ ch ∉ S ∧ cn ∉ S) : zEv cs sl ck ch cn ne ek eh en μ1 := by
  obtain ⟨a, b, c⟩ := h
  exact ⟨a, by rw [hf.a hs.1]; exact b, fun e he => by rw [hf.a hs.2.1, hf.a hs.2.2.1, hf.a hs.2.2.2]; exact c e he⟩
/-- the events, as numbers -/
def zEn (ne : Nat) (ek en : Nat → Nat) : Prop := ∀ e, e < ne → ek e ≤ 1 ∧ en e < 12 ∧ (ek e = 0 → en e < 8)
theorem zEv.n {cs sl ck ch cn ne : Nat} {ek eh en : Nat → Nat} {μ : zq_Me} (h : zEv cs sl ck ch cn ne ek eh en μ) : zEn ne ek en := fun e he => by
  obtain ⟨-, -, -, q1, -, q2, q3⟩ := h.2.2 e he
  exact ⟨q1, q2, q3⟩
theorem zh_e_lt {ek eh en : Nat → Nat} {wo h ne : Nat} (hE : zEn ne ek en) {s : Nat × Nat} (hs : s.1 ≤ 8 ∧ s.2 < 2 ^ 12) : ∀ e, e ≤ ne → (zh_e ek eh en wo h e s).1 ≤ 8 ∧ (zh_e ek eh en wo h e s).2 < 2 ^ 12
  | 0, _ => hs
  | e + 1, he => by
    have ih := zh_e_lt hE hs (wo := wo) (h := h) (eh := eh) e (by omega)
    obtain ⟨q1, q2, q3⟩ := hE e (by omega)
    unfold zh_e
    split
    · split
      · rename_i hk
        exact ⟨by have := q3 hk; show en e + 1 ≤ 8; omega, ih.2⟩
      · exact ⟨ih.1, zn_or_lt ih.2 (zn_pow_lt q2)⟩
    · exact ih
theorem zh_lt {ek eh en : Nat → Nat} {wo ne : Nat} (hE : zEn ne ek en) : ∀ h, (zh ek eh en wo ne h).1 ≤ 8 ∧ (zh ek eh en wo ne h).2 < 2 ^ 12
  | 0 => ⟨(by decide : 0 ≤ 8), (by decide : 0 < 2 ^ 12)⟩
  | h + 1 => zh_e_lt hE (zh_lt hE h) ne (Nat.le_refl _)
set_option maxRecDepth 100000 in
set_option maxHeartbeats 4000000 in
theorem zs_lh33_11_e {Q : zq_Post} {ne wo : Nat} {ek eh en : Nat → Nat} (hw : wo < 2 ^ 31) {μ : zq_Me} (hev : μ.2.2.1 33 8 = 11) (hE : zEv 11 3 12 13 14 ne ek eh en μ) (hwo : μ.1 33 9 = nI wo) {h : Nat} (hh : h < 24) {s0 : Nat × Nat} (hs : s0.1 ≤ 8 ∧ s0.2 < 2 ^ 12) (kk : zq_Wp zn_X7_layHours 104 [(0, .ref 33), (1, .int (zdn (zh_e ek eh en wo h ne s0).1)), (2, .int (nI ((zh_e ek eh en wo h ne s0).2))), (3, .int (nI h))] [] μ Q) : ∀ (j e : Nat), e + j = ne → zq_Wp zn_X7_layHours 15 [(0, .ref 33), (1, .int (zdn (zh_e ek eh en wo h e s0).1)), (2, .int (nI ((zh_e ek eh en wo h e s0).2))), (3, .int (nI h)), (4, .int (nI e))] [] μ Q := by
  intro j
  induction j with
  | zero =>
    intro e hij
    have he9 : e = ne := by omega
    subst he9
    have hn9 := hE.1
    refine zq_go zt_X7_layHours 3 [] 21 [(0, .ref 33), (1, .int (zdn (zh_e ek eh en wo h e s0).1)), (2, .int (nI ((zh_e ek eh en wo h e s0).2))), (3, .int (nI h)), (4, .int (nI e))] [.ref (μ.2.2.1 33 8), .int (nI e)] μ rfl trivial ?_
    rw [hev]
    refine zq_go zt_X7_layHours 2 [] (if (μ.1 11 3) ≤ (nI e) then 104 else 27) [(0, .ref 33), (1, .int (zdn (zh_e ek eh en wo h e s0).1)), (2, .int (nI ((zh_e ek eh en wo h e s0).2))), (3, .int (nI h)), (4, .int (nI e))] [] μ rfl trivial ?_
    rw [hE.2.1]
    rw [if_pos (by rw [zn_le (by omega) (by omega)]; omega)]
    exact zq_drp [0, 1, 2, 3] [(0, .ref 33), (1, .int (zdn (zh_e ek eh en wo h e s0).1)), (2, .int (nI ((zh_e ek eh en wo h e s0).2))), (3, .int (nI h))] rfl kk
  | succ j ih =>
    intro e hij
    have hn9 := hE.1
    obtain ⟨q1, q2, q3, q4, q5, q6, q7⟩ := hE.2.2 e (by omega)
    have hb9 := (zh_e_lt hE.n hs (wo := wo) (h := h) (eh := eh) e (by omega)).2
    refine zq_go zt_X7_layHours 3 [] 21 [(0, .ref 33), (1, .int (zdn (zh_e ek eh en wo h e s0).1)), (2, .int (nI ((zh_e ek eh en wo h e s0).2))), (3, .int (nI h)), (4, .int (nI e))] [.ref (μ.2.2.1 33 8), .int (nI e)] μ rfl trivial ?_
    rw [hev]
    refine zq_go zt_X7_layHours 2 [] (if (μ.1 11 3) ≤ (nI e) then 104 else 27) [(0, .ref 33), (1, .int (zdn (zh_e ek eh en wo h e s0).1)), (2, .int (nI ((zh_e ek eh en wo h e s0).2))), (3, .int (nI h)), (4, .int (nI e))] [] μ rfl trivial ?_
    rw [hE.2.1]
    rw [if_neg (by rw [zn_le (by omega) (by omega)]; omega)]
    refine zq_go zt_X7_layHours 2 [] 31 [(0, .ref 33), (1, .int (zdn (zh_e ek eh en wo h e s0).1)), (2, .int (nI ((zh_e ek eh en wo h e s0).2))), (3, .int (nI h)), (4, .int (nI e))] [.ref (μ.2.2.1 33 8)] μ rfl trivial ?_
    rw [hev]
    refine zq_go zt_X7_layHours 5 [vp_in (nI e) 9] (if ¬ (μ.1 13 ((nI e).toNatClampNeg)) = (nI h) then 98 else 41) [(0, .ref 33), (1, .int (zdn (zh_e ek eh en wo h e s0).1)), (2, .int (nI ((zh_e ek eh en wo h e s0).2))), (3, .int (nI h)), (4, .int (nI e))] [] μ rfl ⟨zn_in (k := e) rfl (by omega) (by decide), trivial⟩ ?_
    rw [zn_cl (n := e) (by omega), q2]
    refine zq_ite (fun h27 => ?_) (fun h27 => ?_)
    · rw [zn_eq (by omega) (by omega)] at h27
      have e9 : zh_e ek eh en wo h (e + 1) s0 = zh_e ek eh en wo h e s0 := if_neg (fun q => h27 q.1)
      refine zq_go zt_X7_layHours 2 [] 15 [(0, .ref 33), (1, .int (zdn (zh_e ek eh en wo h e s0).1)), (2, .int (nI ((zh_e ek eh en wo h e s0).2))), (3, .int (nI h)), (4, .int ((nI e) + (nI 1)))] [] μ rfl trivial ?_
      rw [zn_add e 1]
      have ih9 := ih (e + 1) (by omega)
      rw [e9] at ih9
      exact ih9
    · have hh9 : eh e = h := by
        rw [zn_eq (by omega) (by omega)] at h27
        omega
      refine zq_go zt_X7_layHours 7 [] (if (((μ.1 33 9) >>> ((nI e) &&& 31)) &&& (nI 1)) = 0 then 56 else 53) [(0, .ref 33), (1, .int (zdn (zh_e ek eh en wo h e s0).1)), (2, .int (nI ((zh_e ek eh en wo h e s0).2))), (3, .int (nI h)), (4, .int (nI e))] [] μ rfl trivial ?_
      rw [hwo]
      rw [zn_bit hw (by omega), zB_bit]
      refine zq_ite (fun h41 => ?_) (fun h41 => ?_)
      · have hm9 := zB_f h41
        refine zq_go zt_X7_layHours 2 [] 60 [(0, .ref 33), (1, .int (zdn (zh_e ek eh en wo h e s0).1)), (2, .int (nI ((zh_e ek eh en wo h e s0).2))), (3, .int (nI h)), (4, .int (nI e))] [.ref (μ.2.2.1 33 8)] μ rfl trivial ?_
        rw [hev]
        refine zq_go zt_X7_layHours 4 [vp_in (nI e) 9] (if ¬ (μ.1 12 ((nI e).toNatClampNeg)) = 0 then 83 else 69) [(0, .ref 33), (1, .int (zdn (zh_e ek eh en wo h e s0).1)), (2, .int (nI ((zh_e ek eh en wo h e s0).2))), (3, .int (nI h)), (4, .int (nI e))] [] μ rfl ⟨zn_in (k := e) rfl (by omega) (by decide), trivial⟩ ?_
        rw [zn_cl (n := e) (by omega), q1]
        refine zq_ite (fun h47 => ?_) (fun h47 => ?_)
        · have hk9 : ¬ ek e = 0 := by
            rw [show (0 : Int32) = nI 0 from rfl, zn_eq (by omega) (by omega)] at h47
            exact h47
          have e9 : zh_e ek eh en wo h (e + 1) s0 = ((zh_e ek eh en wo h e s0).1, (zh_e ek eh en wo h e s0).2 ||| 2 ^ en e) := by
            show (if _ then _ else _) = _
            rw [if_pos ⟨hh9, hm9⟩, if_neg hk9]
          refine zq_go zt_X7_layHours 4 [] 89 [(0, .ref 33), (1, .int (zdn (zh_e ek eh en wo h e s0).1)), (2, .int (nI ((zh_e ek eh en wo h e s0).2))), (3, .int (nI h)), (4, .int (nI e))] [.ref (μ.2.2.1 33 8), .int (nI 1), .int (nI ((zh_e ek eh en wo h e s0).2))] μ rfl trivial ?_
          rw [hev]
          refine zq_go zt_X7_layHours 8 [vp_in (nI e) 9] 15 [(0, .ref 33), (1, .int (zdn (zh_e ek eh en wo h e s0).1)), (2, .int ((nI ((zh_e ek eh en wo h e s0).2)) ||| ((nI 1) <<< ((μ.1 14 ((nI e).toNatClampNeg)) &&& 31)))), (3, .int (nI h)), (4, .int ((nI e) + (nI 1)))] [] μ rfl ⟨zn_in (k := e) rfl (by omega) (by decide), trivial⟩ ?_
          rw [zn_cl (n := e) (by omega), q3, zn_add e 1]
          rw [zn_1shl (k := en e) (by omega), zn_or]
          have ih9 := ih (e + 1) (by omega)
          rw [e9] at ih9
          exact ih9
        · have hk9 : ek e = 0 := by
            rw [show (0 : Int32) = nI 0 from rfl, zn_eq (by omega) (by omega)] at h47
            omega
          have e9 : zh_e ek eh en wo h (e + 1) s0 = (en e + 1, (zh_e ek eh en wo h e s0).2) := by
            show (if _ then _ else _) = _
            rw [if_pos ⟨hh9, hm9⟩, if_pos hk9]
          refine zq_go zt_X7_layHours 2 [] 73 [(0, .ref 33), (1, .int (zdn (zh_e ek eh en wo h e s0).1)), (2, .int (nI ((zh_e ek eh en wo h e s0).2))), (3, .int (nI h)), (4, .int (nI e))] [.ref (μ.2.2.1 33 8)] μ rfl trivial ?_
          rw [hev]
          refine zq_go zt_X7_layHours 5 [vp_in (nI e) 9] 98 [(0, .ref 33), (1, .int (μ.1 14 ((nI e).toNatClampNeg))), (2, .int (nI ((zh_e ek eh en wo h e s0).2))), (3, .int (nI h)), (4, .int (nI e))] [] μ rfl ⟨zn_in (k := e) rfl (by omega) (by decide), trivial⟩ ?_
          rw [zn_cl (n := e) (by omega), q3]
          refine zq_go zt_X7_layHours 2 [] 15 [(0, .ref 33), (1, .int (nI (en e))), (2, .int (nI ((zh_e ek eh en wo h e s0).2))), (3, .int (nI h)), (4, .int ((nI e) + (nI 1)))] [] μ rfl trivial ?_
          rw [zn_add e 1]
          have ih9 := ih (e + 1) (by omega)
          rw [e9] at ih9
          exact ih9
      · have hm9 := zB_t h41
        have hm8 : ¬ (eh e = h ∧ wo.testBit e = false) := fun q => by rw [hm9] at q; cases q.2
        have e9 : zh_e ek eh en wo h (e + 1) s0 = zh_e ek eh en wo h e s0 := if_neg hm8
        refine zq_go zt_X7_layHours 1 [] 98 [(0, .ref 33), (1, .int (zdn (zh_e ek eh en wo h e s0).1)), (2, .int (nI ((zh_e ek eh en wo h e s0).2))), (3, .int (nI h)), (4, .int (nI e))] [] μ rfl trivial ?_
        refine zq_go zt_X7_layHours 2 [] 15 [(0, .ref 33), (1, .int (zdn (zh_e ek eh en wo h e s0).1)), (2, .int (nI ((zh_e ek eh en wo h e s0).2))), (3, .int (nI h)), (4, .int ((nI e) + (nI 1)))] [] μ rfl trivial ?_
        rw [zn_add e 1]
        have ih9 := ih (e + 1) (by omega)
        rw [e9] at ih9
        exact ih9
set_option maxRecDepth 100000 in
set_option maxHeartbeats 4000000 in
theorem zs_lh33_11_h {Q : zq_Post} {ne wo : Nat} {ek eh en : Nat → Nat} (hw : wo < 2 ^ 31) {μ0 : zq_Me} (hev0 : μ0.2.2.1 33 8 = 11) (hE0 : zEv 11 3 12 13 14 ne ek eh en μ0) (hwo0 : μ0.1 33 9 = nI wo) (kk : ∀ μ : zq_Me, (zq_fr [35, 36] μ0 μ ∧ ∀ i, i < 24 → μ.1 35 i = zdn (zh ek eh en wo ne (i + 1)).1 ∧ μ.1 36 i = nI (zh ek eh en wo ne (i + 1)).2) → zq_Wp zn_X7_layHours 124 [] [] μ Q) : ∀ (j h : Nat) (μ : zq_Me), h + j = 24 → (zq_fr [35, 36] μ0 μ ∧ ∀ i, i < h → μ.1 35 i = zdn (zh ek eh en wo ne (i + 1)).1 ∧ μ.1 36 i = nI (zh ek eh en wo ne (i + 1)).2) → zq_Wp zn_X7_layHours 6 [(0, .ref 33), (1, .int (zdn (zh ek eh en wo ne h).1)), (2, .int (nI ((zh ek eh en wo ne h).2))), (3, .int (nI h))] [] μ Q := by
  intro j
  induction j with
  | zero =>
    intro h μ hij hI
    obtain rfl : h = 24 := by omega
    refine zq_go zt_X7_layHours 3 [] (if (nI 24) ≤ (nI 24) then 124 else 12) [(0, .ref 33), (1, .int (zdn (zh ek eh en wo ne 24).1)), (2, .int (nI ((zh ek eh en wo ne 24).2))), (3, .int (nI 24))] [] μ rfl trivial ?_
    rw [if_pos (by decide)]
    exact zq_drp [] [] rfl (kk μ hI)
  | succ j ih =>
    intro h μ hij hI
    have hE := hE0.fr hI.1 (by decide)
    have hev : μ.2.2.1 33 8 = 11 := by rw [hI.1.r (b := 33) (by decide)]; exact hev0
    have hwo : μ.1 33 9 = nI wo := by rw [hI.1.a (b := 33) (by decide)]; exact hwo0
    have hz := zh_lt (wo := wo) (eh := eh) hE.n h
    have hz1 := zh_lt (wo := wo) (eh := eh) hE.n (h + 1)
    refine zq_go zt_X7_layHours 3 [] (if (nI 24) ≤ (nI h) then 124 else 12) [(0, .ref 33), (1, .int (zdn (zh ek eh en wo ne h).1)), (2, .int (nI ((zh ek eh en wo ne h).2))), (3, .int (nI h))] [] μ rfl trivial ?_
    rw [if_neg (by rw [zn_le (by omega) (by omega)]; omega)]
    refine zq_go zt_X7_layHours 2 [] 15 [(0, .ref 33), (1, .int (zdn (zh ek eh en wo ne h).1)), (2, .int (nI ((zh ek eh en wo ne h).2))), (3, .int (nI h)), (4, .int (nI 0))] [] μ rfl trivial ?_
    refine zs_lh33_11_e hw hev hE hwo (show h < 24 by omega) hz ?_ ne 0 (by omega)
    rw [show zh_e ek eh en wo h ne (zh ek eh en wo ne h) = zh ek eh en wo ne (h + 1) from rfl]
    refine zq_go zt_X7_layHours 12 [vp_in (nI h) 24, vp_in (nI h) 24] 6 [(0, .ref 33), (1, .int (zdn (zh ek eh en wo ne (h + 1)).1)), (2, .int (nI ((zh ek eh en wo ne (h + 1)).2))), (3, .int ((nI h) + (nI 1)))] [] (zq_u1 (zq_u1 μ 35 ((nI h).toNatClampNeg) (zdn (zh ek eh en wo ne (h + 1)).1)) 36 ((nI h).toNatClampNeg) (nI ((zh ek eh en wo ne (h + 1)).2))) rfl ⟨zn_in (k := h) rfl (by omega) (by decide), ⟨zn_in (k := h) rfl (by omega) (by decide), trivial⟩⟩ ?_
    rw [zn_add h 1, zn_cl (n := h) (by omega)]
    refine ih (h + 1) _ (by omega) ⟨(hI.1.u1 (by simp)).u1 (by simp), fun i hi => ?_⟩
    rw [zq_u1_ne (by decide), zq_u1_rd, zq_u1_rd]
    by_cases h8 : i = h
    · subst h8; rw [if_pos rfl, if_pos rfl]; exact ⟨rfl, rfl⟩
    · rw [if_neg h8, if_neg h8, zq_u1_ne (by decide)]; exact hI.2 i (by omega)
set_option maxRecDepth 100000 in
set_option maxHeartbeats 4000000 in
theorem zs_lh33_11 {ne wo : Nat} {ek eh en : Nat → Nat} (hw : wo < 2 ^ 31) {μ : zq_Me} (hev : μ.2.2.1 33 8 = 11) (hE : zEv 11 3 12 13 14 ne ek eh en μ) (hwo : μ.1 33 9 = nI wo) : zq_Wp zn_X7_layHours 0 [(0, .ref 33)] [] μ (fun r μ' => r = none ∧ zq_fr [35, 36] μ μ' ∧ ∀ i, i < 24 → μ'.1 35 i = zdn (zh ek eh en wo ne (i + 1)).1 ∧ μ'.1 36 i = nI (zh ek eh en wo ne (i + 1)).2) := by
  refine zq_go zt_X7_layHours 6 [] 6 [(0, .ref 33), (1, .int (-1)), (2, .int (nI 0)), (3, .int (nI 0))] [] μ rfl trivial ?_
  refine zs_lh33_11_h hw hev hE hwo (fun μ1 hI => ?_) 24 0 μ (by omega) ⟨zq_fr.rf, fun i hi => absurd hi (Nat.not_lt_zero i)⟩
  exact zq_retn zt_X7_layHours rfl rfl ⟨rfl, hI⟩
set_option maxRecDepth 100000 in
set_option maxHeartbeats 4000000 in
theorem zs_lh40_11_e {Q : zq_Post} {ne wo : Nat} {ek eh en : Nat → Nat} (hw : wo < 2 ^ 31) {μ : zq_Me} (hev : μ.2.2.1 40 8 = 11) (hE : zEv 11 3 12 13 14 ne ek eh en μ) (hwo : μ.1 40 9 = nI wo) {h : Nat} (hh : h < 24) {s0 : Nat × Nat} (hs : s0.1 ≤ 8 ∧ s0.2 < 2 ^ 12) (kk : zq_Wp zn_X7_layHours 104 [(0, .ref 40), (1, .int (zdn (zh_e ek eh en wo h ne s0).1)), (2, .int (nI ((zh_e ek eh en wo h ne s0).2))), (3, .int (nI h))] [] μ Q) : ∀ (j e : Nat), e + j = ne → zq_Wp zn_X7_layHours 15 [(0, .ref 40), (1, .int (zdn (zh_e ek eh en wo h e s0).1)), (2, .int (nI ((zh_e ek eh en wo h e s0).2))), (3, .int (nI h)), (4, .int (nI e))] [] μ Q := by
  intro j
  induction j with
  | zero =>
    intro e hij
    have he9 : e = ne := by omega
    subst he9
    have hn9 := hE.1
    refine zq_go zt_X7_layHours 3 [] 21 [(0, .ref 40), (1, .int (zdn (zh_e ek eh en wo h e s0).1)), (2, .int (nI ((zh_e ek eh en wo h e s0).2))), (3, .int (nI h)), (4, .int (nI e))] [.ref (μ.2.2.1 40 8), .int (nI e)] μ rfl trivial ?_
    rw [hev]
    refine zq_go zt_X7_layHours 2 [] (if (μ.1 11 3) ≤ (nI e) then 104 else 27) [(0, .ref 40), (1, .int (zdn (zh_e ek eh en wo h e s0).1)), (2, .int (nI ((zh_e ek eh en wo h e s0).2))), (3, .int (nI h)), (4, .int (nI e))] [] μ rfl trivial ?_
    rw [hE.2.1]
    rw [if_pos (by rw [zn_le (by omega) (by omega)]; omega)]
    exact zq_drp [0, 1, 2, 3] [(0, .ref 40), (1, .int (zdn (zh_e ek eh en wo h e s0).1)), (2, .int (nI ((zh_e ek eh en wo h e s0).2))), (3, .int (nI h))] rfl kk
  | succ j ih =>
    intro e hij
    have hn9 := hE.1
    obtain ⟨q1, q2, q3, q4, q5, q6, q7⟩ := hE.2.2 e (by omega)
    have hb9 := (zh_e_lt hE.n hs (wo := wo) (h := h) (eh := eh) e (by omega)).2
    refine zq_go zt_X7_layHours 3 [] 21 [(0, .ref 40), (1, .int (zdn (zh_e ek eh en wo h e s0).1)), (2, .int (nI ((zh_e ek eh en wo h e s0).2))), (3, .int (nI h)), (4, .int (nI e))] [.ref (μ.2.2.1 40 8), .int (nI e)] μ rfl trivial ?_
    rw [hev]
    refine zq_go zt_X7_layHours 2 [] (if (μ.1 11 3) ≤ (nI e) then 104 else 27) [(0, .ref 40), (1, .int (zdn (zh_e ek eh en wo h e s0).1)), (2, .int (nI ((zh_e ek eh en wo h e s0).2))), (3, .int (nI h)), (4, .int (nI e))] [] μ rfl trivial ?_
    rw [hE.2.1]
    rw [if_neg (by rw [zn_le (by omega) (by omega)]; omega)]
    refine zq_go zt_X7_layHours 2 [] 31 [(0, .ref 40), (1, .int (zdn (zh_e ek eh en wo h e s0).1)), (2, .int (nI ((zh_e ek eh en wo h e s0).2))), (3, .int (nI h)), (4, .int (nI e))] [.ref (μ.2.2.1 40 8)] μ rfl trivial ?_
    rw [hev]
    refine zq_go zt_X7_layHours 5 [vp_in (nI e) 9] (if ¬ (μ.1 13 ((nI e).toNatClampNeg)) = (nI h) then 98 else 41) [(0, .ref 40), (1, .int (zdn (zh_e ek eh en wo h e s0).1)), (2, .int (nI ((zh_e ek eh en wo h e s0).2))), (3, .int (nI h)), (4, .int (nI e))] [] μ rfl ⟨zn_in (k := e) rfl (by omega) (by decide), trivial⟩ ?_
    rw [zn_cl (n := e) (by omega), q2]
    refine zq_ite (fun h27 => ?_) (fun h27 => ?_)
    · rw [zn_eq (by omega) (by omega)] at h27
      have e9 : zh_e ek eh en wo h (e + 1) s0 = zh_e ek eh en wo h e s0 := if_neg (fun q => h27 q.1)
      refine zq_go zt_X7_layHours 2 [] 15 [(0, .ref 40), (1, .int (zdn (zh_e ek eh en wo h e s0).1)), (2, .int (nI ((zh_e ek eh en wo h e s0).2))), (3, .int (nI h)), (4, .int ((nI e) + (nI 1)))] [] μ rfl trivial ?_
      rw [zn_add e 1]
      have ih9 := ih (e + 1) (by omega)
      rw [e9] at ih9
      exact ih9
    · have hh9 : eh e = h := by
        rw [zn_eq (by omega) (by omega)] at h27
        omega
      refine zq_go zt_X7_layHours 7 [] (if (((μ.1 40 9) >>> ((nI e) &&& 31)) &&& (nI 1)) = 0 then 56 else 53) [(0, .ref 40), (1, .int (zdn (zh_e ek eh en wo h e s0).1)), (2, .int (nI ((zh_e ek eh en wo h e s0).2))), (3, .int (nI h)), (4, .int (nI e))] [] μ rfl trivial ?_
      rw [hwo]
      rw [zn_bit hw (by omega), zB_bit]
      refine zq_ite (fun h41 => ?_) (fun h41 => ?_)
      · have hm9 := zB_f h41
        refine zq_go zt_X7_layHours 2 [] 60 [(0, .ref 40), (1, .int (zdn (zh_e ek eh en wo h e s0).1)), (2, .int (nI ((zh_e ek eh en wo h e s0).2))), (3, .int (nI h)), (4, .int (nI e))] [.ref (μ.2.2.1 40 8)] μ rfl trivial ?_
        rw [hev]
        refine zq_go zt_X7_layHours 4 [vp_in (nI e) 9] (if ¬ (μ.1 12 ((nI e).toNatClampNeg)) = 0 then 83 else 69) [(0, .ref 40), (1, .int (zdn (zh_e ek eh en wo h e s0).1)), (2, .int (nI ((zh_e ek eh en wo h e s0).2))), (3, .int (nI h)), (4, .int (nI e))] [] μ rfl ⟨zn_in (k := e) rfl (by omega) (by decide), trivial⟩ ?_
        rw [zn_cl (n := e) (by omega), q1]
        refine zq_ite (fun h47 => ?_) (fun h47 => ?_)
        · have hk9 : ¬ ek e = 0 := by
            rw [show (0 : Int32) = nI 0 from rfl, zn_eq (by omega) (by omega)] at h47
            exact h47
          have e9 : zh_e ek eh en wo h (e + 1) s0 = ((zh_e ek eh en wo h e s0).1, (zh_e ek eh en wo h e s0).2 ||| 2 ^ en e) := by
            show (if _ then _ else _) = _
            rw [if_pos ⟨hh9, hm9⟩, if_neg hk9]
          refine zq_go zt_X7_layHours 4 [] 89 [(0, .ref 40), (1, .int (zdn (zh_e ek eh en wo h e s0).1)), (2, .int (nI ((zh_e ek eh en wo h e s0).2))), (3, .int (nI h)), (4, .int (nI e))] [.ref (μ.2.2.1 40 8), .int (nI 1), .int (nI ((zh_e ek eh en wo h e s0).2))] μ rfl trivial ?_
          rw [hev]
          refine zq_go zt_X7_layHours 8 [vp_in (nI e) 9] 15 [(0, .ref 40), (1, .int (zdn (zh_e ek eh en wo h e s0).1)), (2, .int ((nI ((zh_e ek eh en wo h e s0).2)) ||| ((nI 1) <<< ((μ.1 14 ((nI e).toNatClampNeg)) &&& 31)))), (3, .int (nI h)), (4, .int ((nI e) + (nI 1)))] [] μ rfl ⟨zn_in (k := e) rfl (by omega) (by decide), trivial⟩ ?_
          rw [zn_cl (n := e) (by omega), q3, zn_add e 1]
          rw [zn_1shl (k := en e) (by omega), zn_or]
          have ih9 := ih (e + 1) (by omega)
          rw [e9] at ih9
          exact ih9
        · have hk9 : ek e = 0 := by
            rw [show (0 : Int32) = nI 0 from rfl, zn_eq (by omega) (by omega)] at h47
            omega
          have e9 : zh_e ek eh en wo h (e + 1) s0 = (en e + 1, (zh_e ek eh en wo h e s0).2) := by
            show (if _ then _ else _) = _
            rw [if_pos ⟨hh9, hm9⟩, if_pos hk9]
          refine zq_go zt_X7_layHours 2 [] 73 [(0, .ref 40), (1, .int (zdn (zh_e ek eh en wo h e s0).1)), (2, .int (nI ((zh_e ek eh en wo h e s0).2))), (3, .int (nI h)), (4, .int (nI e))] [.ref (μ.2.2.1 40 8)] μ rfl trivial ?_
          rw [hev]
          refine zq_go zt_X7_layHours 5 [vp_in (nI e) 9] 98 [(0, .ref 40), (1, .int (μ.1 14 ((nI e).toNatClampNeg))), (2, .int (nI ((zh_e ek eh en wo h e s0).2))), (3, .int (nI h)), (4, .int (nI e))] [] μ rfl ⟨zn_in (k := e) rfl (by omega) (by decide), trivial⟩ ?_
          rw [zn_cl (n := e) (by omega), q3]
          refine zq_go zt_X7_layHours 2 [] 15 [(0, .ref 40), (1, .int (nI (en e))), (2, .int (nI ((zh_e ek eh en wo h e s0).2))), (3, .int (nI h)), (4, .int ((nI e) + (nI 1)))] [] μ rfl trivial ?_
          rw [zn_add e 1]
          have ih9 := ih (e + 1) (by omega)
          rw [e9] at ih9
          exact ih9
      · have hm9 := zB_t h41
        have hm8 : ¬ (eh e = h ∧ wo.testBit e = false) := fun q => by rw [hm9] at q; cases q.2
        have e9 : zh_e ek eh en wo h (e + 1) s0 = zh_e ek eh en wo h e s0 := if_neg hm8
        refine zq_go zt_X7_layHours 1 [] 98 [(0, .ref 40), (1, .int (zdn (zh_e ek eh en wo h e s0).1)), (2, .int (nI ((zh_e ek eh en wo h e s0).2))), (3, .int (nI h)), (4, .int (nI e))] [] μ rfl trivial ?_
        refine zq_go zt_X7_layHours 2 [] 15 [(0, .ref 40), (1, .int (zdn (zh_e ek eh en wo h e s0).1)), (2, .int (nI ((zh_e ek eh en wo h e s0).2))), (3, .int (nI h)), (4, .int ((nI e) + (nI 1)))] [] μ rfl trivial ?_
        rw [zn_add e 1]
        have ih9 := ih (e + 1) (by omega)
        rw [e9] at ih9
        exact ih9
set_option maxRecDepth 100000 in
set_option maxHeartbeats 4000000 in
theorem zs_lh40_11_h {Q : zq_Post} {ne wo : Nat} {ek eh en : Nat → Nat} (hw : wo < 2 ^ 31) {μ0 : zq_Me} (hev0 : μ0.2.2.1 40 8 = 11) (hE0 : zEv 11 3 12 13 14 ne ek eh en μ0) (hwo0 : μ0.1 40 9 = nI wo) (kk : ∀ μ : zq_Me, (zq_fr [42, 43] μ0 μ ∧ ∀ i, i < 24 → μ.1 42 i = zdn (zh ek eh en wo ne (i + 1)).1 ∧ μ.1 43 i = nI (zh ek eh en wo ne (i + 1)).2) → zq_Wp zn_X7_layHours 124 [] [] μ Q) : ∀ (j h : Nat) (μ : zq_Me), h + j = 24 → (zq_fr [42, 43] μ0 μ ∧ ∀ i, i < h → μ.1 42 i = zdn (zh ek eh en wo ne (i + 1)).1 ∧ μ.1 43 i = nI (zh ek eh en wo ne (i + 1)).2) → zq_Wp zn_X7_layHours 6 [(0, .ref 40), (1, .int (zdn (zh ek eh en wo ne h).1)), (2, .int (nI ((zh ek eh en wo ne h).2))), (3, .int (nI h))] [] μ Q := by
  intro j
  induction j with
  | zero =>
    intro h μ hij hI
    obtain rfl : h = 24 := by omega
    refine zq_go zt_X7_layHours 3 [] (if (nI 24) ≤ (nI 24) then 124 else 12) [(0, .ref 40), (1, .int (zdn (zh ek eh en wo ne 24).1)), (2, .int (nI ((zh ek eh en wo ne 24).2))), (3, .int (nI 24))] [] μ rfl trivial ?_
    rw [if_pos (by decide)]
    exact zq_drp [] [] rfl (kk μ hI)
  | succ j ih =>
    intro h μ hij hI
    have hE := hE0.fr hI.1 (by decide)
    have hev : μ.2.2.1 40 8 = 11 := by rw [hI.1.r (b := 40) (by decide)]; exact hev0
    have hwo : μ.1 40 9 = nI wo := by rw [hI.1.a (b := 40) (by decide)]; exact hwo0
    have hz := zh_lt (wo := wo) (eh := eh) hE.n h
    have hz1 := zh_lt (wo := wo) (eh := eh) hE.n (h + 1)
    refine zq_go zt_X7_layHours 3 [] (if (nI 24) ≤ (nI h) then 124 else 12) [(0, .ref 40), (1, .int (zdn (zh ek eh en wo ne h).1)), (2, .int (nI ((zh ek eh en wo ne h).2))), (3, .int (nI h))] [] μ rfl trivial ?_
    rw [if_neg (by rw [zn_le (by omega) (by omega)]; omega)]
    refine zq_go zt_X7_layHours 2 [] 15 [(0, .ref 40), (1, .int (zdn (zh ek eh en wo ne h).1)), (2, .int (nI ((zh ek eh en wo ne h).2))), (3, .int (nI h)), (4, .int (nI 0))] [] μ rfl trivial ?_
    refine zs_lh40_11_e hw hev hE hwo (show h < 24 by omega) hz ?_ ne 0 (by omega)
    rw [show zh_e ek eh en wo h ne (zh ek eh en wo ne h) = zh ek eh en wo ne (h + 1) from rfl]
    refine zq_go zt_X7_layHours 12 [vp_in (nI h) 24, vp_in (nI h) 24] 6 [(0, .ref 40), (1, .int (zdn (zh ek eh en wo ne (h + 1)).1)), (2, .int (nI ((zh ek eh en wo ne (h + 1)).2))), (3, .int ((nI h) + (nI 1)))] [] (zq_u1 (zq_u1 μ 42 ((nI h).toNatClampNeg) (zdn (zh ek eh en wo ne (h + 1)).1)) 43 ((nI h).toNatClampNeg) (nI ((zh ek eh en wo ne (h + 1)).2))) rfl ⟨zn_in (k := h) rfl (by omega) (by decide), ⟨zn_in (k := h) rfl (by omega) (by decide), trivial⟩⟩ ?_
    rw [zn_add h 1, zn_cl (n := h) (by omega)]
    refine ih (h + 1) _ (by omega) ⟨(hI.1.u1 (by simp)).u1 (by simp), fun i hi => ?_⟩
    rw [zq_u1_ne (by decide), zq_u1_rd, zq_u1_rd]
    by_cases h8 : i = h
    · subst h8; rw [if_pos rfl, if_pos rfl]; exact ⟨rfl, rfl⟩
    · rw [if_neg h8, if_neg h8, zq_u1_ne (by decide)]; exact hI.2 i (by omega)
set_option maxRecDepth 100000 in
set_option maxHeartbeats 4000000 in
theorem zs_lh40_11 {ne wo : Nat} {ek eh en : Nat → Nat} (hw : wo < 2 ^ 31) {μ : zq_Me} (hev : μ.2.2.1 40 8 = 11) (hE : zEv 11 3 12 13 14 ne ek eh en μ) (hwo : μ.1 40 9 = nI wo) : zq_Wp zn_X7_layHours 0 [(0, .ref 40)] [] μ (fun r μ' => r = none ∧ zq_fr [42, 43] μ μ' ∧ ∀ i, i < 24 → μ'.1 42 i = zdn (zh ek eh en wo ne (i + 1)).1 ∧ μ'.1 43 i = nI (zh ek eh en wo ne (i + 1)).2) := by
  refine zq_go zt_X7_layHours 6 [] 6 [(0, .ref 40), (1, .int (-1)), (2, .int (nI 0)), (3, .int (nI 0))] [] μ rfl trivial ?_
  refine zs_lh40_11_h hw hev hE hwo (fun μ1 hI => ?_) 24 0 μ (by omega) ⟨zq_fr.rf, fun i hi => absurd hi (Nat.not_lt_zero i)⟩
  exact zq_retn zt_X7_layHours rfl rfl ⟨rfl, hI⟩
set_option maxRecDepth 100000 in
set_option maxHeartbeats 4000000 in
theorem zs_lh40_15_e {Q : zq_Post} {ne wo : Nat} {ek eh en : Nat → Nat} (hw : wo < 2 ^ 31) {μ : zq_Me} (hev : μ.2.2.1 40 8 = 15) (hE : zEv 15 3 16 17 18 ne ek eh en μ) (hwo : μ.1 40 9 = nI wo) {h : Nat} (hh : h < 24) {s0 : Nat × Nat} (hs : s0.1 ≤ 8 ∧ s0.2 < 2 ^ 12) (kk : zq_Wp zn_X7_layHours 104 [(0, .ref 40), (1, .int (zdn (zh_e ek eh en wo h ne s0).1)), (2, .int (nI ((zh_e ek eh en wo h ne s0).2))), (3, .int (nI h))] [] μ Q) : ∀ (j e : Nat), e + j = ne → zq_Wp zn_X7_layHours 15 [(0, .ref 40), (1, .int (zdn (zh_e ek eh en wo h e s0).1)), (2, .int (nI ((zh_e ek eh en wo h e s0).2))), (3, .int (nI h)), (4, .int (nI e))] [] μ Q := by
  intro j
  induction j with
  | zero =>
    intro e hij
    have he9 : e = ne := by omega
    subst he9
    have hn9 := hE.1
    refine zq_go zt_X7_layHours 3 [] 21 [(0, .ref 40), (1, .int (zdn (zh_e ek eh en wo h e s0).1)), (2, .int (nI ((zh_e ek eh en wo h e s0).2))), (3, .int (nI h)), (4, .int (nI e))] [.ref (μ.2.2.1 40 8), .int (nI e)] μ rfl trivial ?_
    rw [hev]
    refine zq_go zt_X7_layHours 2 [] (if (μ.1 15 3) ≤ (nI e) then 104 else 27) [(0, .ref 40), (1, .int (zdn (zh_e ek eh en wo h e s0).1)), (2, .int (nI ((zh_e ek eh en wo h e s0).2))), (3, .int (nI h)), (4, .int (nI e))] [] μ rfl trivial ?_
    rw [hE.2.1]
    rw [if_pos (by rw [zn_le (by omega) (by omega)]; omega)]
    exact zq_drp [0, 1, 2, 3] [(0, .ref 40), (1, .int (zdn (zh_e ek eh en wo h e s0).1)), (2, .int (nI ((zh_e ek eh en wo h e s0).2))), (3, .int (nI h))] rfl kk
  | succ j ih =>
    intro e hij
    have hn9 := hE.1
    obtain ⟨q1, q2, q3, q4, q5, q6, q7⟩ := hE.2.2 e (by omega)
    have hb9 := (zh_e_lt hE.n hs (wo := wo) (h := h) (eh := eh) e (by omega)).2
    refine zq_go zt_X7_layHours 3 [] 21 [(0, .ref 40), (1, .int (zdn (zh_e ek eh en wo h e s0).1)), (2, .int (nI ((zh_e ek eh en wo h e s0).2))), (3, .int (nI h)), (4, .int (nI e))] [.ref (μ.2.2.1 40 8), .int (nI e)] μ rfl trivial ?_
    rw [hev]
    refine zq_go zt_X7_layHours 2 [] (if (μ.1 15 3) ≤ (nI e) then 104 else 27) [(0, .ref 40), (1, .int (zdn (zh_e ek eh en wo h e s0).1)), (2, .int (nI ((zh_e ek eh en wo h e s0).2))), (3, .int (nI h)), (4, .int (nI e))] [] μ rfl trivial ?_
    rw [hE.2.1]
    rw [if_neg (by rw [zn_le (by omega) (by omega)]; omega)]
    refine zq_go zt_X7_layHours 2 [] 31 [(0, .ref 40), (1, .int (zdn (zh_e ek eh en wo h e s0).1)), (2, .int (nI ((zh_e ek eh en wo h e s0).2))), (3, .int (nI h)), (4, .int (nI e))] [.ref (μ.2.2.1 40 8)] μ rfl trivial ?_
    rw [hev]
    refine zq_go zt_X7_layHours 5 [vp_in (nI e) 9] (if ¬ (μ.1 17 ((nI e).toNatClampNeg)) = (nI h) then 98 else 41) [(0, .ref 40), (1, .int (zdn (zh_e ek eh en wo h e s0).1)), (2, .int (nI ((zh_e ek eh en wo h e s0).2))), (3, .int (nI h)), (4, .int (nI e))] [] μ rfl ⟨zn_in (k := e) rfl (by omega) (by decide), trivial⟩ ?_
    rw [zn_cl (n := e) (by omega), q2]
    refine zq_ite (fun h27 => ?_) (fun h27 => ?_)
    · rw [zn_eq (by omega) (by omega)] at h27
      have e9 : zh_e ek eh en wo h (e + 1) s0 = zh_e ek eh en wo h e s0 := if_neg (fun q => h27 q.1)
      refine zq_go zt_X7_layHours 2 [] 15 [(0, .ref 40), (1, .int (zdn (zh_e ek eh en wo h e s0).1)), (2, .int (nI ((zh_e ek eh en wo h e s0).2))), (3, .int (nI h)), (4, .int ((nI e) + (nI 1)))] [] μ rfl trivial ?_
      rw [zn_add e 1]
      have ih9 := ih (e + 1) (by omega)
      rw [e9] at ih9
      exact ih9
    · have hh9 : eh e = h := by
        rw [zn_eq (by omega) (by omega)] at h27
        omega
      refine zq_go zt_X7_layHours 7 [] (if (((μ.1 40 9) >>> ((nI e) &&& 31)) &&& (nI 1)) = 0 then 56 else 53) [(0, .ref 40), (1, .int (zdn (zh_e ek eh en wo h e s0).1)), (2, .int (nI ((zh_e ek eh en wo h e s0).2))), (3, .int (nI h)), (4, .int (nI e))] [] μ rfl trivial ?_
      rw [hwo]
      rw [zn_bit hw (by omega), zB_bit]
      refine zq_ite (fun h41 => ?_) (fun h41 => ?_)
      · have hm9 := zB_f h41
        refine zq_go zt_X7_layHours 2 [] 60 [(0, .ref 40), (1, .int (zdn (zh_e ek eh en wo h e s0).1)), (2, .int (nI ((zh_e ek eh en wo h e s0).2))), (3, .int (nI h)), (4, .int (nI e))] [.ref (μ.2.2.1 40 8)] μ rfl trivial ?_
        rw [hev]
        refine zq_go zt_X7_layHours 4 [vp_in (nI e) 9] (if ¬ (μ.1 16 ((nI e).toNatClampNeg)) = 0 then 83 else 69) [(0, .ref 40), (1, .int (zdn (zh_e ek eh en wo h e s0).1)), (2, .int (nI ((zh_e ek eh en wo h e s0).2))), (3, .int (nI h)), (4, .int (nI e))] [] μ rfl ⟨zn_in (k := e) rfl (by omega) (by decide), trivial⟩ ?_
        rw [zn_cl (n := e) (by omega), q1]
        refine zq_ite (fun h47 => ?_) (fun h47 => ?_)
        · have hk9 : ¬ ek e = 0 := by
            rw [show (0 : Int32) = nI 0 from rfl, zn_eq (by omega) (by omega)] at h47
            exact h47
          have e9 : zh_e ek eh en wo h (e + 1) s0 = ((zh_e ek eh en wo h e s0).1, (zh_e ek eh en wo h e s0).2 ||| 2 ^ en e) := by
            show (if _ then _ else _) = _
            rw [if_pos ⟨hh9, hm9⟩, if_neg hk9]
          refine zq_go zt_X7_layHours 4 [] 89 [(0, .ref 40), (1, .int (zdn (zh_e ek eh en wo h e s0).1)), (2, .int (nI ((zh_e ek eh en wo h e s0).2))), (3, .int (nI h)), (4, .int (nI e))] [.ref (μ.2.2.1 40 8), .int (nI 1), .int (nI ((zh_e ek eh en wo h e s0).2))] μ rfl trivial ?_
          rw [hev]
          refine zq_go zt_X7_layHours 8 [vp_in (nI e) 9] 15 [(0, .ref 40), (1, .int (zdn (zh_e ek eh en wo h e s0).1)), (2, .int ((nI ((zh_e ek eh en wo h e s0).2)) ||| ((nI 1) <<< ((μ.1 18 ((nI e).toNatClampNeg)) &&& 31)))), (3, .int (nI h)), (4, .int ((nI e) + (nI 1)))] [] μ rfl ⟨zn_in (k := e) rfl (by omega) (by decide), trivial⟩ ?_
          rw [zn_cl (n := e) (by omega), q3, zn_add e 1]
          rw [zn_1shl (k := en e) (by omega), zn_or]
          have ih9 := ih (e + 1) (by omega)
          rw [e9] at ih9
          exact ih9
        · have hk9 : ek e = 0 := by
            rw [show (0 : Int32) = nI 0 from rfl, zn_eq (by omega) (by omega)] at h47
            omega
          have e9 : zh_e ek eh en wo h (e + 1) s0 = (en e + 1, (zh_e ek eh en wo h e s0).2) := by
            show (if _ then _ else _) = _
            rw [if_pos ⟨hh9, hm9⟩, if_pos hk9]
          refine zq_go zt_X7_layHours 2 [] 73 [(0, .ref 40), (1, .int (zdn (zh_e ek eh en wo h e s0).1)), (2, .int (nI ((zh_e ek eh en wo h e s0).2))), (3, .int (nI h)), (4, .int (nI e))] [.ref (μ.2.2.1 40 8)] μ rfl trivial ?_
          rw [hev]
          refine zq_go zt_X7_layHours 5 [vp_in (nI e) 9] 98 [(0, .ref 40), (1, .int (μ.1 18 ((nI e).toNatClampNeg))), (2, .int (nI ((zh_e ek eh en wo h e s0).2))), (3, .int (nI h)), (4, .int (nI e))] [] μ rfl ⟨zn_in (k := e) rfl (by omega) (by decide), trivial⟩ ?_
          rw [zn_cl (n := e) (by omega), q3]
          refine zq_go zt_X7_layHours 2 [] 15 [(0, .ref 40), (1, .int (nI (en e))), (2, .int (nI ((zh_e ek eh en wo h e s0).2))), (3, .int (nI h)), (4, .int ((nI e) + (nI 1)))] [] μ rfl trivial ?_
          rw [zn_add e 1]
          have ih9 := ih (e + 1) (by omega)
          rw [e9] at ih9
          exact ih9
      · have hm9 := zB_t h41
        have hm8 : ¬ (eh e = h ∧ wo.testBit e = false) := fun q => by rw [hm9] at q; cases q.2
        have e9 : zh_e ek eh en wo h (e + 1) s0 = zh_e ek eh en wo h e s0 := if_neg hm8
        refine zq_go zt_X7_layHours 1 [] 98 [(0, .ref 40), (1, .int (zdn (zh_e ek eh en wo h e s0).1)), (2, .int (nI ((zh_e ek eh en wo h e s0).2))), (3, .int (nI h)), (4, .int (nI e))] [] μ rfl trivial ?_
        refine zq_go zt_X7_layHours 2 [] 15 [(0, .ref 40), (1, .int (zdn (zh_e ek eh en wo h e s0).1)), (2, .int (nI ((zh_e ek eh en wo h e s0).2))), (3, .int (nI h)), (4, .int ((nI e) + (nI 1)))] [] μ rfl trivial ?_
        rw [zn_add e 1]
        have ih9 := ih (e + 1) (by omega)
        rw [e9] at ih9
        exact ih9
set_option maxRecDepth 100000 in
set_option maxHeartbeats 4000000 in
theorem zs_lh40_15_h {Q : zq_Post} {ne wo : Nat} {ek eh en : Nat → Nat} (hw : wo < 2 ^ 31) {μ0 : zq_Me} (hev0 : μ0.2.2.1 40 8 = 15) (hE0 : zEv 15 3 16 17 18 ne ek eh en μ0) (hwo0 : μ0.1 40 9 = nI wo) (kk : ∀ μ : zq_Me, (zq_fr [42, 43] μ0 μ ∧ ∀ i, i < 24 → μ.1 42 i = zdn (zh ek eh en wo ne (i + 1)).1 ∧ μ.1 43 i = nI (zh ek eh en wo ne (i + 1)).2) → zq_Wp zn_X7_layHours 124 [] [] μ Q) : ∀ (j h : Nat) (μ : zq_Me), h + j = 24 → (zq_fr [42, 43] μ0 μ ∧ ∀ i, i < h → μ.1 42 i = zdn (zh ek eh en wo ne (i + 1)).1 ∧ μ.1 43 i = nI (zh ek eh en wo ne (i + 1)).2) → zq_Wp zn_X7_layHours 6 [(0, .ref 40), (1, .int (zdn (zh ek eh en wo ne h).1)), (2, .int (nI ((zh ek eh en wo ne h).2))), (3, .int (nI h))] [] μ Q := by
  intro j
  induction j with
  | zero =>
    intro h μ hij hI
    obtain rfl : h = 24 := by omega
    refine zq_go zt_X7_layHours 3 [] (if (nI 24) ≤ (nI 24) then 124 else 12) [(0, .ref 40), (1, .int (zdn (zh ek eh en wo ne 24).1)), (2, .int (nI ((zh ek eh en wo ne 24).2))), (3, .int (nI 24))] [] μ rfl trivial ?_
    rw [if_pos (by decide)]
    exact zq_drp [] [] rfl (kk μ hI)
  | succ j ih =>
    intro h μ hij hI
    have hE := hE0.fr hI.1 (by decide)
    have hev : μ.2.2.1 40 8 = 15 := by rw [hI.1.r (b := 40) (by decide)]; exact hev0
    have hwo : μ.1 40 9 = nI wo := by rw [hI.1.a (b := 40) (by decide)]; exact hwo0
    have hz := zh_lt (wo := wo) (eh := eh) hE.n h
    have hz1 := zh_lt (wo := wo) (eh := eh) hE.n (h + 1)
    refine zq_go zt_X7_layHours 3 [] (if (nI 24) ≤ (nI h) then 124 else 12) [(0, .ref 40), (1, .int (zdn (zh ek eh en wo ne h).1)), (2, .int (nI ((zh ek eh en wo ne h).2))), (3, .int (nI h))] [] μ rfl trivial ?_
    rw [if_neg (by rw [zn_le (by omega) (by omega)]; omega)]
    refine zq_go zt_X7_layHours 2 [] 15 [(0, .ref 40), (1, .int (zdn (zh ek eh en wo ne h).1)), (2, .int (nI ((zh ek eh en wo ne h).2))), (3, .int (nI h)), (4, .int (nI 0))] [] μ rfl trivial ?_
    refine zs_lh40_15_e hw hev hE hwo (show h < 24 by omega) hz ?_ ne 0 (by omega)
    rw [show zh_e ek eh en wo h ne (zh ek eh en wo ne h) = zh ek eh en wo ne (h + 1) from rfl]
    refine zq_go zt_X7_layHours 12 [vp_in (nI h) 24, vp_in (nI h) 24] 6 [(0, .ref 40), (1, .int (zdn (zh ek eh en wo ne (h + 1)).1)), (2, .int (nI ((zh ek eh en wo ne (h + 1)).2))), (3, .int ((nI h) + (nI 1)))] [] (zq_u1 (zq_u1 μ 42 ((nI h).toNatClampNeg) (zdn (zh ek eh en wo ne (h + 1)).1)) 43 ((nI h).toNatClampNeg) (nI ((zh ek eh en wo ne (h + 1)).2))) rfl ⟨zn_in (k := h) rfl (by omega) (by decide), ⟨zn_in (k := h) rfl (by omega) (by decide), trivial⟩⟩ ?_
    rw [zn_add h 1, zn_cl (n := h) (by omega)]
    refine ih (h + 1) _ (by omega) ⟨(hI.1.u1 (by simp)).u1 (by simp), fun i hi => ?_⟩
    rw [zq_u1_ne (by decide), zq_u1_rd, zq_u1_rd]
    by_cases h8 : i = h
    · subst h8; rw [if_pos rfl, if_pos rfl]; exact ⟨rfl, rfl⟩
    · rw [if_neg h8, if_neg h8, zq_u1_ne (by decide)]; exact hI.2 i (by omega)
set_option maxRecDepth 100000 in
set_option maxHeartbeats 4000000 in
theorem zs_lh40_15 {ne wo : Nat} {ek eh en : Nat → Nat} (hw : wo < 2 ^ 31) {μ : zq_Me} (hev : μ.2.2.1 40 8 = 15) (hE : zEv 15 3 16 17 18 ne ek eh en μ) (hwo : μ.1 40 9 = nI wo) : zq_Wp zn_X7_layHours 0 [(0, .ref 40)] [] μ (fun r μ' => r = none ∧ zq_fr [42, 43] μ μ' ∧ ∀ i, i < 24 → μ'.1 42 i = zdn (zh ek eh en wo ne (i + 1)).1 ∧ μ'.1 43 i = nI (zh ek eh en wo ne (i + 1)).2) := by
  refine zq_go zt_X7_layHours 6 [] 6 [(0, .ref 40), (1, .int (-1)), (2, .int (nI 0)), (3, .int (nI 0))] [] μ rfl trivial ?_
  refine zs_lh40_15_h hw hev hE hwo (fun μ1 hI => ?_) 24 0 μ (by omega) ⟨zq_fr.rf, fun i hi => absurd hi (Nat.not_lt_zero i)⟩
  exact zq_retn zt_X7_layHours rfl rfl ⟨rfl, hI⟩
