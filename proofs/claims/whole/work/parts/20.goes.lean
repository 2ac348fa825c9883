/-! ===== the reference's ways ===== -/
/-- the people as the reference has read them -/
def zPm (np : Nat) (srt stt bed : Nat → Nat) (μ : zq_Me) : Prop := np ≤ 8 ∧ μ.1 50 5 = nI np ∧ ∀ p, p < np → μ.1 55 p = nI (srt p) ∧ srt p ≤ 2 ∧ μ.1 56 p = nI (stt p) ∧ stt p < 8 ∧ μ.1 57 p = nI (bed p) ∧ bed p < 8
theorem zPm.sl {np : Nat} {srt stt bed : Nat → Nat} {μ μ1 : zq_Me} (h : zPm np srt stt bed μ) (h5 : μ1.1 50 5 = μ.1 50 5) (h55 : μ1.1 55 = μ.1 55) (h56 : μ1.1 56 = μ.1 56) (h57 : μ1.1 57 = μ.1 57) : zPm np srt stt bed μ1 := by
  obtain ⟨a, b, c⟩ := h
  exact ⟨a, by rw [h5]; exact b, fun e he => by rw [h55, h56, h57]; exact c e he⟩
theorem zPm.fr {np : Nat} {srt stt bed : Nat → Nat} {μ μ1 : zq_Me} {S : List Nat} (h : zPm np srt stt bed μ) (hf : zq_fr S μ μ1) (hs : 50 ∉ S ∧ 55 ∉ S ∧ 56 ∉ S ∧ 57 ∉ S) : zPm np srt stt bed μ1 :=
  h.sl (by rw [hf.a hs.1]) (hf.a hs.2.1) (hf.a hs.2.2.1) (hf.a hs.2.2.2)
theorem zT.of {a : Nat → Nat → Bool} {P : Nat} {μ μ1 : zq_Me} (h : zT a P μ) (he : μ1.1 65 = μ.1 65) : zT a P μ1 := fun x c hx hc => by rw [he]; exact h x c hx hc
set_option maxRecDepth 100000 in
set_option maxHeartbeats 4000000 in
theorem zs_goes_h {Q : zq_Post} {p np : Nat} {srt stt bed hm cr : Nat → Nat} {A : Nat → Nat → Nat → Bool} {N : Nat → Nat → Nat → Nat} {hc : Bool} {ld cx : Nat} {μ0 : zq_Me} (hP0 : zPm np srt stt bed μ0) (hpn : p < np) (hp : p < 8) (hl9 : ld ≤ 9) (hld0 : μ0.1 50 14 = nI ld) (hH0 : ∀ i, i < 24 → μ0.1 64 i = zdn (hm i) ∧ hm i ≤ 8) (hT0 : ∀ i, i < 24 → zT (A i) (64 * i) μ0) (hNA : ∀ h t x, h < 24 → t < 8 → x < 8 → zg_n (A h) t x = N h t x) (hNl : ∀ h t x, h < 24 → t < 8 → x < 8 → N h t x < 8) (hcr : ∀ h, h < 24 → cr h < 8) (hcx8 : cx ≤ 8) (hcx : hc = decide (¬ cx = 0)) (hcp : ∀ c, cx = c + 1 → srt p = 2 → c < 8 ∧ c ≠ p ∧ ∀ i, i < 24 → μ0.1 66 (8 * i + c) = nI (cr i)) (kk : ∀ μ : zq_Me, (zq_fr [66] μ0 μ ∧ (∀ i, i < 24 → μ.1 66 (8 * i + p) = nI (zw N (srt p) (stt p) (bed p) hm hc cr ld (i + 1)).1) ∧ ∀ q, q % 8 ≠ p → μ.1 66 q = μ0.1 66 q) → zq_Wp zn_X9_goesThrough 205 [] [] μ Q) : ∀ (j h : Nat) (μ : zq_Me), h + j = 24 → (zq_fr [66] μ0 μ ∧ (∀ i, i < h → μ.1 66 (8 * i + p) = nI (zw N (srt p) (stt p) (bed p) hm hc cr ld (i + 1)).1) ∧ ∀ q, q % 8 ≠ p → μ.1 66 q = μ0.1 66 q) → zq_Wp zn_X9_goesThrough 13 [(0, .ref 50), (1, .int (nI p)), (2, .int (zdn cx)), (3, .int (nI ((zw N (srt p) (stt p) (bed p) hm hc cr ld h).1))), (4, .int (zB (zw N (srt p) (stt p) (bed p) hm hc cr ld h).2)), (5, .int (nI h))] [] μ Q := by
  intro j
  induction j with
  | zero =>
    intro h μ hij hI
    obtain rfl : h = 24 := by omega
    refine zq_go zt_X9_goesThrough 3 [] (if (nI 24) ≤ (nI 24) then 205 else 20) [(0, .ref 50), (1, .int (nI p)), (2, .int (zdn cx)), (3, .int (nI ((zw N (srt p) (stt p) (bed p) hm hc cr ld 24).1))), (4, .int (zB (zw N (srt p) (stt p) (bed p) hm hc cr ld 24).2)), (5, .int (nI 24))] [] μ rfl trivial ?_
    rw [if_pos (by decide)]
    exact zq_drp [] [] rfl (kk μ hI)
  | succ j ih =>
    intro h μ hij hI
    have hld : μ.1 50 14 = nI ld := by rw [hI.1.a (b := 50) (by decide)]; exact hld0
    have hH : ∀ i, i < 24 → μ.1 64 i = zdn (hm i) ∧ hm i ≤ 8 := fun i hi => by rw [hI.1.a (b := 64) (by decide)]; exact hH0 i hi
    have hT : zT (A h) (64 * h) μ := (hT0 h (by omega)).of (hI.1.a (by decide))
    obtain ⟨q1, hs2, q2, hst, q3, hbd⟩ := (hP0.fr hI.1 (by decide)).2.2 p hpn
    have hzl := zw_lt (sort := srt p) (hc := hc) (cr := cr) (ld := ld) hNl hst hbd (fun i hi => (hH0 i hi).2) hcr h (by omega)
    have hz1 := hzl.1
    have hz2 := hzl.2 (zw N (srt p) (stt p) (bed p) hm hc cr ld h).2 (by omega)
    have key : zq_Wp zn_X9_goesThrough 153 [(0, .ref 50), (1, .int (nI p)), (2, .int (zdn cx)), (3, .int (nI ((zw N (srt p) (stt p) (bed p) hm hc cr ld h).1))), (4, .int (zB (zw N (srt p) (stt p) (bed p) hm hc cr ld h).2)), (5, .int (nI h)), (6, .int (nI (zw_aim (srt p) (stt p) (bed p) hm hc cr ld h (zw N (srt p) (stt p) (bed p) hm hc cr ld h).2)))] [] μ Q := by
      refine zq_go zt_X9_goesThrough 4 [] 159 [(0, .ref 50), (1, .int (nI p)), (2, .int (zdn cx)), (3, .int (nI ((zw N (srt p) (stt p) (bed p) hm hc cr ld h).1))), (4, .int (zB (zw N (srt p) (stt p) (bed p) hm hc cr ld h).2)), (5, .int (nI h)), (6, .int (nI (zw_aim (srt p) (stt p) (bed p) hm hc cr ld h (zw N (srt p) (stt p) (bed p) hm hc cr ld h).2)))] [.int (nI (zw_aim (srt p) (stt p) (bed p) hm hc cr ld h (zw N (srt p) (stt p) (bed p) hm hc cr ld h).2)), .int (nI ((zw N (srt p) (stt p) (bed p) hm hc cr ld h).1)), .int (nI h), .ref 50] μ rfl trivial ?_
      refine zq_call zt_X9_goesThrough [.ref 50, .int (nI h), .int (nI ((zw N (srt p) (stt p) (bed p) hm hc cr ld h).1)), .int (nI (zw_aim (srt p) (stt p) (bed p) hm hc cr ld h (zw N (srt p) (stt p) (bed p) hm hc cr ld h).2))] [] (zs_step (by omega) hz1 hz2 hT) rfl rfl ?_
      rintro _ _ ⟨rfl, rfl⟩
      have e1 : zg_n (A h) (zw_aim (srt p) (stt p) (bed p) hm hc cr ld h (zw N (srt p) (stt p) (bed p) hm hc cr ld h).2) (zw N (srt p) (stt p) (bed p) hm hc cr ld h).1 = (zw N (srt p) (stt p) (bed p) hm hc cr ld (h + 1)).1 := hNA h _ _ (by omega) hz2 hz1
      rw [e1]
      have hz3 : (zw N (srt p) (stt p) (bed p) hm hc cr ld (h + 1)).1 < 8 := hNl h _ _ (by omega) hz2 hz1
      show zq_Wp zn_X9_goesThrough 162 [(0, .ref 50), (1, .int (nI p)), (2, .int (zdn cx)), (3, .int (nI ((zw N (srt p) (stt p) (bed p) hm hc cr ld h).1))), (4, .int (zB (zw N (srt p) (stt p) (bed p) hm hc cr ld h).2)), (5, .int (nI h)), (6, .int (nI (zw_aim (srt p) (stt p) (bed p) hm hc cr ld h (zw N (srt p) (stt p) (bed p) hm hc cr ld h).2)))] [.int (nI ((zw N (srt p) (stt p) (bed p) hm hc cr ld (h + 1)).1))] μ Q
      refine zq_go zt_X9_goesThrough 4 [] (if ¬ (nI ((zw N (srt p) (stt p) (bed p) hm hc cr ld (h + 1)).1)) = (nI (zw_aim (srt p) (stt p) (bed p) hm hc cr ld h (zw N (srt p) (stt p) (bed p) hm hc cr ld h).2)) then 182 else 169) [(0, .ref 50), (1, .int (nI p)), (2, .int (zdn cx)), (3, .int (nI ((zw N (srt p) (stt p) (bed p) hm hc cr ld (h + 1)).1))), (4, .int (zB (zw N (srt p) (stt p) (bed p) hm hc cr ld h).2)), (5, .int (nI h)), (6, .int (nI (zw_aim (srt p) (stt p) (bed p) hm hc cr ld h (zw N (srt p) (stt p) (bed p) hm hc cr ld h).2)))] [] μ rfl trivial ?_
      refine zq_ite (fun h26 => ?_) (fun h26 => ?_)
      · have hne : ¬ (zw N (srt p) (stt p) (bed p) hm hc cr ld (h + 1)).1 = zw_aim (srt p) (stt p) (bed p) hm hc cr ld h (zw N (srt p) (stt p) (bed p) hm hc cr ld h).2 := by
          rw [zn_eq (by omega) (by omega)] at h26
          exact h26
        have et : (zw N (srt p) (stt p) (bed p) hm hc cr ld (h + 1)).2 = (zw N (srt p) (stt p) (bed p) hm hc cr ld h).2 := if_neg hne
        refine zq_go zt_X9_goesThrough 13 [vp_in (((nI 8) * (nI h)) + (nI p)) 192] 13 [(0, .ref 50), (1, .int (nI p)), (2, .int (zdn cx)), (3, .int (nI ((zw N (srt p) (stt p) (bed p) hm hc cr ld (h + 1)).1))), (4, .int (zB (zw N (srt p) (stt p) (bed p) hm hc cr ld h).2)), (5, .int ((nI h) + (nI 1))), (6, .int (nI (zw_aim (srt p) (stt p) (bed p) hm hc cr ld h (zw N (srt p) (stt p) (bed p) hm hc cr ld h).2)))] [] (zq_u1 μ 66 ((((nI 8) * (nI h)) + (nI p)).toNatClampNeg) (nI ((zw N (srt p) (stt p) (bed p) hm hc cr ld (h + 1)).1))) rfl ⟨zn_in (k := (8 * h) + p) (by rw [zn_mul 8 h, zn_add (8 * h) p]) (by omega) (by decide), trivial⟩ ?_
        rw [zn_add h 1, zn_mul 8 h, zn_add (8 * h) p, zn_cl (n := (8 * h) + p) (by omega)]
        have et9 : zB (zw N (srt p) (stt p) (bed p) hm hc cr ld h).2 = zB (zw N (srt p) (stt p) (bed p) hm hc cr ld (h + 1)).2 := by rw [et]
        rw [et9]
        refine zq_drp [0, 1, 2, 3, 4, 5] [(0, .ref 50), (1, .int (nI p)), (2, .int (zdn cx)), (3, .int (nI ((zw N (srt p) (stt p) (bed p) hm hc cr ld (h + 1)).1))), (4, .int (zB (zw N (srt p) (stt p) (bed p) hm hc cr ld (h + 1)).2)), (5, .int (nI (h + 1)))] rfl (ih (h + 1) _ (by omega) ⟨hI.1.u1 (by simp), fun i hi => ?_, fun q hq => ?_⟩)
        · rw [zq_u1_rd]
          by_cases h8 : i = h
          · subst h8; rw [if_pos rfl]
          · rw [if_neg (by omega)]; exact hI.2.1 i (by omega)
        · rw [zq_u1_o2 (by omega)]; exact hI.2.2 q hq
      · have hne : (zw N (srt p) (stt p) (bed p) hm hc cr ld (h + 1)).1 = zw_aim (srt p) (stt p) (bed p) hm hc cr ld h (zw N (srt p) (stt p) (bed p) hm hc cr ld h).2 := by
          rw [zn_eq (by omega) (by omega)] at h26
          omega
        have et : (zw N (srt p) (stt p) (bed p) hm hc cr ld (h + 1)).2 = !(zw N (srt p) (stt p) (bed p) hm hc cr ld h).2 := if_pos hne
        refine zq_go zt_X9_goesThrough 2 [] (if ¬ (zB (zw N (srt p) (stt p) (bed p) hm hc cr ld h).2) = 0 then 178 else 174) [(0, .ref 50), (1, .int (nI p)), (2, .int (zdn cx)), (3, .int (nI ((zw N (srt p) (stt p) (bed p) hm hc cr ld (h + 1)).1))), (4, .int (zB (zw N (srt p) (stt p) (bed p) hm hc cr ld h).2)), (5, .int (nI h)), (6, .int (nI (zw_aim (srt p) (stt p) (bed p) hm hc cr ld h (zw N (srt p) (stt p) (bed p) hm hc cr ld h).2)))] [] μ rfl trivial ?_
        refine zq_ite (fun h46 => ?_) (fun h46 => ?_)
        · have hb9 := zB_t h46
          refine zq_go zt_X9_goesThrough 2 [] 184 [(0, .ref 50), (1, .int (nI p)), (2, .int (zdn cx)), (3, .int (nI ((zw N (srt p) (stt p) (bed p) hm hc cr ld (h + 1)).1))), (4, .int (zB (zw N (srt p) (stt p) (bed p) hm hc cr ld h).2)), (5, .int (nI h)), (6, .int (nI (zw_aim (srt p) (stt p) (bed p) hm hc cr ld h (zw N (srt p) (stt p) (bed p) hm hc cr ld h).2)))] [.int (nI 0)] μ rfl trivial ?_
          refine zq_go zt_X9_goesThrough 12 [vp_in (((nI 8) * (nI h)) + (nI p)) 192] 13 [(0, .ref 50), (1, .int (nI p)), (2, .int (zdn cx)), (3, .int (nI ((zw N (srt p) (stt p) (bed p) hm hc cr ld (h + 1)).1))), (4, .int (nI 0)), (5, .int ((nI h) + (nI 1))), (6, .int (nI (zw_aim (srt p) (stt p) (bed p) hm hc cr ld h (zw N (srt p) (stt p) (bed p) hm hc cr ld h).2)))] [] (zq_u1 μ 66 ((((nI 8) * (nI h)) + (nI p)).toNatClampNeg) (nI ((zw N (srt p) (stt p) (bed p) hm hc cr ld (h + 1)).1))) rfl ⟨zn_in (k := (8 * h) + p) (by rw [zn_mul 8 h, zn_add (8 * h) p]) (by omega) (by decide), trivial⟩ ?_
          rw [zn_add h 1, zn_mul 8 h, zn_add (8 * h) p, zn_cl (n := (8 * h) + p) (by omega)]
          have et9 : nI 0 = zB (zw N (srt p) (stt p) (bed p) hm hc cr ld (h + 1)).2 := by rw [et, hb9]; rfl
          rw [et9]
          refine zq_drp [0, 1, 2, 3, 4, 5] [(0, .ref 50), (1, .int (nI p)), (2, .int (zdn cx)), (3, .int (nI ((zw N (srt p) (stt p) (bed p) hm hc cr ld (h + 1)).1))), (4, .int (zB (zw N (srt p) (stt p) (bed p) hm hc cr ld (h + 1)).2)), (5, .int (nI (h + 1)))] rfl (ih (h + 1) _ (by omega) ⟨hI.1.u1 (by simp), fun i hi => ?_, fun q hq => ?_⟩)
          · rw [zq_u1_rd]
            by_cases h8 : i = h
            · subst h8; rw [if_pos rfl]
            · rw [if_neg (by omega)]; exact hI.2.1 i (by omega)
          · rw [zq_u1_o2 (by omega)]; exact hI.2.2 q hq
        · have hb9 := zB_f (Classical.not_not.mp h46)
          refine zq_go zt_X9_goesThrough 2 [] 184 [(0, .ref 50), (1, .int (nI p)), (2, .int (zdn cx)), (3, .int (nI ((zw N (srt p) (stt p) (bed p) hm hc cr ld (h + 1)).1))), (4, .int (zB (zw N (srt p) (stt p) (bed p) hm hc cr ld h).2)), (5, .int (nI h)), (6, .int (nI (zw_aim (srt p) (stt p) (bed p) hm hc cr ld h (zw N (srt p) (stt p) (bed p) hm hc cr ld h).2)))] [.int (nI 1)] μ rfl trivial ?_
          refine zq_go zt_X9_goesThrough 12 [vp_in (((nI 8) * (nI h)) + (nI p)) 192] 13 [(0, .ref 50), (1, .int (nI p)), (2, .int (zdn cx)), (3, .int (nI ((zw N (srt p) (stt p) (bed p) hm hc cr ld (h + 1)).1))), (4, .int (nI 1)), (5, .int ((nI h) + (nI 1))), (6, .int (nI (zw_aim (srt p) (stt p) (bed p) hm hc cr ld h (zw N (srt p) (stt p) (bed p) hm hc cr ld h).2)))] [] (zq_u1 μ 66 ((((nI 8) * (nI h)) + (nI p)).toNatClampNeg) (nI ((zw N (srt p) (stt p) (bed p) hm hc cr ld (h + 1)).1))) rfl ⟨zn_in (k := (8 * h) + p) (by rw [zn_mul 8 h, zn_add (8 * h) p]) (by omega) (by decide), trivial⟩ ?_
          rw [zn_add h 1, zn_mul 8 h, zn_add (8 * h) p, zn_cl (n := (8 * h) + p) (by omega)]
          have et9 : nI 1 = zB (zw N (srt p) (stt p) (bed p) hm hc cr ld (h + 1)).2 := by rw [et, hb9]; rfl
          rw [et9]
          refine zq_drp [0, 1, 2, 3, 4, 5] [(0, .ref 50), (1, .int (nI p)), (2, .int (zdn cx)), (3, .int (nI ((zw N (srt p) (stt p) (bed p) hm hc cr ld (h + 1)).1))), (4, .int (zB (zw N (srt p) (stt p) (bed p) hm hc cr ld (h + 1)).2)), (5, .int (nI (h + 1)))] rfl (ih (h + 1) _ (by omega) ⟨hI.1.u1 (by simp), fun i hi => ?_, fun q hq => ?_⟩)
          · rw [zq_u1_rd]
            by_cases h8 : i = h
            · subst h8; rw [if_pos rfl]
            · rw [if_neg (by omega)]; exact hI.2.1 i (by omega)
          · rw [zq_u1_o2 (by omega)]; exact hI.2.2 q hq
    refine zq_go zt_X9_goesThrough 3 [] (if (nI 24) ≤ (nI h) then 205 else 20) [(0, .ref 50), (1, .int (nI p)), (2, .int (zdn cx)), (3, .int (nI ((zw N (srt p) (stt p) (bed p) hm hc cr ld h).1))), (4, .int (zB (zw N (srt p) (stt p) (bed p) hm hc cr ld h).2)), (5, .int (nI h))] [] μ rfl trivial ?_
    rw [if_neg (by rw [zn_le (by omega) (by omega)]; omega)]
    have hs3 : srt p = 0 ∨ srt p = 1 ∨ srt p = 2 := by omega
    rcases hs3 with hs9 | hs9 | hs9
    · refine zq_go zt_X9_goesThrough 10 [vp_in (nI p) 9, vp_in (nI p) 9] (if ¬ (μ.1 55 ((nI p).toNatClampNeg)) = 0 then 66 else 37) [(0, .ref 50), (1, .int (nI p)), (2, .int (zdn cx)), (3, .int (nI ((zw N (srt p) (stt p) (bed p) hm hc cr ld h).1))), (4, .int (zB (zw N (srt p) (stt p) (bed p) hm hc cr ld h).2)), (5, .int (nI h)), (6, .int (μ.1 57 ((nI p).toNatClampNeg)))] [] μ rfl ⟨zn_in (k := p) rfl (by omega) (by decide), ⟨zn_in (k := p) rfl (by omega) (by decide), trivial⟩⟩ ?_
      rw [zn_cl (n := p) (by omega), q3, q1]
      rw [if_neg (by rw [hs9]; decide)]
      refine zq_go zt_X9_goesThrough 6 [vp_in (nI h) 24] (if ¬ (μ.1 64 ((nI h).toNatClampNeg)) = (-1) then 57 else 48) [(0, .ref 50), (1, .int (nI p)), (2, .int (zdn cx)), (3, .int (nI ((zw N (srt p) (stt p) (bed p) hm hc cr ld h).1))), (4, .int (zB (zw N (srt p) (stt p) (bed p) hm hc cr ld h).2)), (5, .int (nI h)), (6, .int (nI (bed p)))] [] μ rfl ⟨zn_in (k := h) rfl (by omega) (by decide), trivial⟩ ?_
      rw [zn_cl (n := h) (by omega), (hH h (by omega)).1]
      refine zq_ite (fun h80 => ?_) (fun h80 => ?_)
      · rw [zdn_m1 (by have := (hH h (by omega)).2; omega)] at h80
        obtain ⟨r, hr⟩ : ∃ r, hm h = r + 1 := ⟨hm h - 1, by omega⟩
        have ea : zw_aim (srt p) (stt p) (bed p) hm hc cr ld h (zw N (srt p) (stt p) (bed p) hm hc cr ld h).2 = r := by
          unfold zw_aim
          rw [if_pos hs9, if_neg h80, hr]
          rfl
        refine zq_go zt_X9_goesThrough 11 [vp_in (nI h) 24, vp_in (nI p) 9] (if ¬ (μ.1 55 ((nI p).toNatClampNeg)) = (nI 1) then 98 else 76) [(0, .ref 50), (1, .int (nI p)), (2, .int (zdn cx)), (3, .int (nI ((zw N (srt p) (stt p) (bed p) hm hc cr ld h).1))), (4, .int (zB (zw N (srt p) (stt p) (bed p) hm hc cr ld h).2)), (5, .int (nI h)), (6, .int (μ.1 64 ((nI h).toNatClampNeg)))] [] μ rfl ⟨zn_in (k := h) rfl (by omega) (by decide), ⟨zn_in (k := p) rfl (by omega) (by decide), trivial⟩⟩ ?_
        rw [zn_cl (n := h) (by omega), (hH h (by omega)).1, zn_cl (n := p) (by omega), q1]
        rw [if_pos (by rw [hs9]; decide)]
        refine zq_go zt_X9_goesThrough 6 [vp_in (nI p) 9] (if ¬ (μ.1 55 ((nI p).toNatClampNeg)) = (nI 2) then 153 else 108) [(0, .ref 50), (1, .int (nI p)), (2, .int (zdn cx)), (3, .int (nI ((zw N (srt p) (stt p) (bed p) hm hc cr ld h).1))), (4, .int (zB (zw N (srt p) (stt p) (bed p) hm hc cr ld h).2)), (5, .int (nI h)), (6, .int (zdn (hm h)))] [] μ rfl ⟨zn_in (k := p) rfl (by omega) (by decide), trivial⟩ ?_
        rw [zn_cl (n := p) (by omega), q1]
        rw [if_pos (by rw [hs9]; decide)]
        rw [hr]
        rw [ea] at key
        exact key
      · rw [zdn_m1 (by have := (hH h (by omega)).2; omega)] at h80
        have h80 := Classical.not_not.mp h80
        have ea : zw_aim (srt p) (stt p) (bed p) hm hc cr ld h (zw N (srt p) (stt p) (bed p) hm hc cr ld h).2 = bed p := by
          unfold zw_aim
          rw [if_pos hs9, if_pos h80]
        refine zq_go zt_X9_goesThrough 5 [vp_in (nI p) 9] 64 [(0, .ref 50), (1, .int (nI p)), (2, .int (zdn cx)), (3, .int (nI ((zw N (srt p) (stt p) (bed p) hm hc cr ld h).1))), (4, .int (zB (zw N (srt p) (stt p) (bed p) hm hc cr ld h).2)), (5, .int (nI h)), (6, .int (nI (bed p)))] [.int (μ.1 57 ((nI p).toNatClampNeg))] μ rfl ⟨zn_in (k := p) rfl (by omega) (by decide), trivial⟩ ?_
        rw [zn_cl (n := p) (by omega), q3]
        refine zq_go zt_X9_goesThrough 7 [vp_in (nI p) 9] (if ¬ (μ.1 55 ((nI p).toNatClampNeg)) = (nI 1) then 98 else 76) [(0, .ref 50), (1, .int (nI p)), (2, .int (zdn cx)), (3, .int (nI ((zw N (srt p) (stt p) (bed p) hm hc cr ld h).1))), (4, .int (zB (zw N (srt p) (stt p) (bed p) hm hc cr ld h).2)), (5, .int (nI h)), (6, .int (nI (bed p)))] [] μ rfl ⟨zn_in (k := p) rfl (by omega) (by decide), trivial⟩ ?_
        rw [zn_cl (n := p) (by omega), q1]
        rw [if_pos (by rw [hs9]; decide)]
        refine zq_go zt_X9_goesThrough 6 [vp_in (nI p) 9] (if ¬ (μ.1 55 ((nI p).toNatClampNeg)) = (nI 2) then 153 else 108) [(0, .ref 50), (1, .int (nI p)), (2, .int (zdn cx)), (3, .int (nI ((zw N (srt p) (stt p) (bed p) hm hc cr ld h).1))), (4, .int (zB (zw N (srt p) (stt p) (bed p) hm hc cr ld h).2)), (5, .int (nI h)), (6, .int (nI (bed p)))] [] μ rfl ⟨zn_in (k := p) rfl (by omega) (by decide), trivial⟩ ?_
        rw [zn_cl (n := p) (by omega), q1]
        rw [if_pos (by rw [hs9]; decide)]
        rw [ea] at key
        exact key
    · refine zq_go zt_X9_goesThrough 10 [vp_in (nI p) 9, vp_in (nI p) 9] (if ¬ (μ.1 55 ((nI p).toNatClampNeg)) = 0 then 66 else 37) [(0, .ref 50), (1, .int (nI p)), (2, .int (zdn cx)), (3, .int (nI ((zw N (srt p) (stt p) (bed p) hm hc cr ld h).1))), (4, .int (zB (zw N (srt p) (stt p) (bed p) hm hc cr ld h).2)), (5, .int (nI h)), (6, .int (μ.1 57 ((nI p).toNatClampNeg)))] [] μ rfl ⟨zn_in (k := p) rfl (by omega) (by decide), ⟨zn_in (k := p) rfl (by omega) (by decide), trivial⟩⟩ ?_
      rw [zn_cl (n := p) (by omega), q3, q1]
      rw [if_pos (by rw [hs9]; decide)]
      refine zq_go zt_X9_goesThrough 6 [vp_in (nI p) 9] (if ¬ (μ.1 55 ((nI p).toNatClampNeg)) = (nI 1) then 98 else 76) [(0, .ref 50), (1, .int (nI p)), (2, .int (zdn cx)), (3, .int (nI ((zw N (srt p) (stt p) (bed p) hm hc cr ld h).1))), (4, .int (zB (zw N (srt p) (stt p) (bed p) hm hc cr ld h).2)), (5, .int (nI h)), (6, .int (nI (bed p)))] [] μ rfl ⟨zn_in (k := p) rfl (by omega) (by decide), trivial⟩ ?_
      rw [zn_cl (n := p) (by omega), q1]
      rw [if_neg (by rw [hs9]; decide)]
      refine zq_go zt_X9_goesThrough 2 [] (if (zB (zw N (srt p) (stt p) (bed p) hm hc cr ld h).2) = 0 then 90 else 81) [(0, .ref 50), (1, .int (nI p)), (2, .int (zdn cx)), (3, .int (nI ((zw N (srt p) (stt p) (bed p) hm hc cr ld h).1))), (4, .int (zB (zw N (srt p) (stt p) (bed p) hm hc cr ld h).2)), (5, .int (nI h)), (6, .int (nI (bed p)))] [] μ rfl trivial ?_
      refine zq_ite (fun h118 => ?_) (fun h118 => ?_)
      · have hb9 := zB_f h118
        have ea : zw_aim (srt p) (stt p) (bed p) hm hc cr ld h (zw N (srt p) (stt p) (bed p) hm hc cr ld h).2 = stt p := by
          unfold zw_aim
          rw [if_neg (by omega), if_pos hs9, hb9]
          rfl
        refine zq_go zt_X9_goesThrough 11 [vp_in (nI p) 9, vp_in (nI p) 9] (if ¬ (μ.1 55 ((nI p).toNatClampNeg)) = (nI 2) then 153 else 108) [(0, .ref 50), (1, .int (nI p)), (2, .int (zdn cx)), (3, .int (nI ((zw N (srt p) (stt p) (bed p) hm hc cr ld h).1))), (4, .int (zB (zw N (srt p) (stt p) (bed p) hm hc cr ld h).2)), (5, .int (nI h)), (6, .int (μ.1 56 ((nI p).toNatClampNeg)))] [] μ rfl ⟨zn_in (k := p) rfl (by omega) (by decide), ⟨zn_in (k := p) rfl (by omega) (by decide), trivial⟩⟩ ?_
        rw [zn_cl (n := p) (by omega), q2, q1]
        rw [if_pos (by rw [hs9]; decide)]
        rw [ea] at key
        exact key
      · have hb9 := zB_t h118
        have ea : zw_aim (srt p) (stt p) (bed p) hm hc cr ld h (zw N (srt p) (stt p) (bed p) hm hc cr ld h).2 = bed p := by
          unfold zw_aim
          rw [if_neg (by omega), if_pos hs9, hb9]
          rfl
        refine zq_go zt_X9_goesThrough 5 [vp_in (nI p) 9] 96 [(0, .ref 50), (1, .int (nI p)), (2, .int (zdn cx)), (3, .int (nI ((zw N (srt p) (stt p) (bed p) hm hc cr ld h).1))), (4, .int (zB (zw N (srt p) (stt p) (bed p) hm hc cr ld h).2)), (5, .int (nI h)), (6, .int (nI (bed p)))] [.int (μ.1 57 ((nI p).toNatClampNeg))] μ rfl ⟨zn_in (k := p) rfl (by omega) (by decide), trivial⟩ ?_
        rw [zn_cl (n := p) (by omega), q3]
        refine zq_go zt_X9_goesThrough 7 [vp_in (nI p) 9] (if ¬ (μ.1 55 ((nI p).toNatClampNeg)) = (nI 2) then 153 else 108) [(0, .ref 50), (1, .int (nI p)), (2, .int (zdn cx)), (3, .int (nI ((zw N (srt p) (stt p) (bed p) hm hc cr ld h).1))), (4, .int (zB (zw N (srt p) (stt p) (bed p) hm hc cr ld h).2)), (5, .int (nI h)), (6, .int (nI (bed p)))] [] μ rfl ⟨zn_in (k := p) rfl (by omega) (by decide), trivial⟩ ?_
        rw [zn_cl (n := p) (by omega), q1]
        rw [if_pos (by rw [hs9]; decide)]
        rw [ea] at key
        exact key
    · refine zq_go zt_X9_goesThrough 10 [vp_in (nI p) 9, vp_in (nI p) 9] (if ¬ (μ.1 55 ((nI p).toNatClampNeg)) = 0 then 66 else 37) [(0, .ref 50), (1, .int (nI p)), (2, .int (zdn cx)), (3, .int (nI ((zw N (srt p) (stt p) (bed p) hm hc cr ld h).1))), (4, .int (zB (zw N (srt p) (stt p) (bed p) hm hc cr ld h).2)), (5, .int (nI h)), (6, .int (μ.1 57 ((nI p).toNatClampNeg)))] [] μ rfl ⟨zn_in (k := p) rfl (by omega) (by decide), ⟨zn_in (k := p) rfl (by omega) (by decide), trivial⟩⟩ ?_
      rw [zn_cl (n := p) (by omega), q3, q1]
      rw [if_pos (by rw [hs9]; decide)]
      refine zq_go zt_X9_goesThrough 6 [vp_in (nI p) 9] (if ¬ (μ.1 55 ((nI p).toNatClampNeg)) = (nI 1) then 98 else 76) [(0, .ref 50), (1, .int (nI p)), (2, .int (zdn cx)), (3, .int (nI ((zw N (srt p) (stt p) (bed p) hm hc cr ld h).1))), (4, .int (zB (zw N (srt p) (stt p) (bed p) hm hc cr ld h).2)), (5, .int (nI h)), (6, .int (nI (bed p)))] [] μ rfl ⟨zn_in (k := p) rfl (by omega) (by decide), trivial⟩ ?_
      rw [zn_cl (n := p) (by omega), q1]
      rw [if_pos (by rw [hs9]; decide)]
      refine zq_go zt_X9_goesThrough 6 [vp_in (nI p) 9] (if ¬ (μ.1 55 ((nI p).toNatClampNeg)) = (nI 2) then 153 else 108) [(0, .ref 50), (1, .int (nI p)), (2, .int (zdn cx)), (3, .int (nI ((zw N (srt p) (stt p) (bed p) hm hc cr ld h).1))), (4, .int (zB (zw N (srt p) (stt p) (bed p) hm hc cr ld h).2)), (5, .int (nI h)), (6, .int (nI (bed p)))] [] μ rfl ⟨zn_in (k := p) rfl (by omega) (by decide), trivial⟩ ?_
      rw [zn_cl (n := p) (by omega), q1]
      rw [if_neg (by rw [hs9]; decide)]
      refine zq_go zt_X9_goesThrough 3 [] (if (zdn cx) = (-1) then 153 else 113) [(0, .ref 50), (1, .int (nI p)), (2, .int (zdn cx)), (3, .int (nI ((zw N (srt p) (stt p) (bed p) hm hc cr ld h).1))), (4, .int (zB (zw N (srt p) (stt p) (bed p) hm hc cr ld h).2)), (5, .int (nI h)), (6, .int (nI (bed p)))] [] μ rfl trivial ?_
      refine zq_ite (fun h151 => ?_) (fun h151 => ?_)
      · rw [zdn_m1 (by omega)] at h151
        have ea : zw_aim (srt p) (stt p) (bed p) hm hc cr ld h (zw N (srt p) (stt p) (bed p) hm hc cr ld h).2 = bed p := by
          unfold zw_aim
          rw [if_neg (by omega), if_neg (by omega), if_neg (by rw [hcx]; simp [h151])]
        rw [ea] at key
        exact key
      · rw [zdn_m1 (by omega)] at h151
        have hct : hc = true := by rw [hcx]; exact decide_eq_true h151
        obtain ⟨c, hce⟩ : ∃ c, cx = c + 1 := ⟨cx - 1, by omega⟩
        have ecx : zdn cx = nI c := by rw [hce]; rfl
        obtain ⟨hc1, hc2, hc3⟩ := hcp c hce hs9
        refine zq_go zt_X9_goesThrough 6 [] (if ((nI h) + (μ.1 50 14)) ≤ (nI 23) then 130 else 125) [(0, .ref 50), (1, .int (nI p)), (2, .int (zdn cx)), (3, .int (nI ((zw N (srt p) (stt p) (bed p) hm hc cr ld h).1))), (4, .int (zB (zw N (srt p) (stt p) (bed p) hm hc cr ld h).2)), (5, .int (nI h)), (6, .int (nI (bed p)))] [] μ rfl trivial ?_
        rw [hld, zn_add h ld]
        refine zq_ite (fun h165 => ?_) (fun h165 => ?_)
        · have h23 : h + ld ≤ 23 := by rwa [zn_le (by omega) (by omega)] at h165
          have ea : zw_aim (srt p) (stt p) (bed p) hm hc cr ld h (zw N (srt p) (stt p) (bed p) hm hc cr ld h).2 = cr (h + ld) := by
            unfold zw_aim
            rw [if_neg (by omega), if_neg (by omega), if_pos hct, if_pos h23]
          rw [ecx]
          have hr9 : μ.1 66 ((8 * (h + ld)) + c) = nI (cr (h + ld)) := by rw [hI.2.2 _ (by omega)]; exact hc3 _ (by omega)
          refine zq_go zt_X9_goesThrough 14 [vp_in (((nI 8) * ((nI h) + (μ.1 50 14))) + (nI c)) 192] 153 [(0, .ref 50), (1, .int (nI p)), (2, .int (nI c)), (3, .int (nI ((zw N (srt p) (stt p) (bed p) hm hc cr ld h).1))), (4, .int (zB (zw N (srt p) (stt p) (bed p) hm hc cr ld h).2)), (5, .int (nI h)), (6, .int (μ.1 66 ((((nI 8) * ((nI h) + (μ.1 50 14))) + (nI c)).toNatClampNeg))), (7, .int ((nI h) + (μ.1 50 14)))] [] μ rfl ⟨zn_in (k := (8 * (h + ld)) + c) (by rw [hld, zn_add h ld, zn_mul 8 (h + ld), zn_add (8 * (h + ld)) c]) (by omega) (by decide), trivial⟩ ?_
          rw [hld, zn_add h ld, zn_mul 8 (h + ld), zn_add (8 * (h + ld)) c, zn_cl (n := (8 * (h + ld)) + c) (by omega), hr9]
          rw [ea, ecx] at key
          exact zq_drp [0, 1, 2, 3, 4, 5, 6] [(0, .ref 50), (1, .int (nI p)), (2, .int (nI c)), (3, .int (nI ((zw N (srt p) (stt p) (bed p) hm hc cr ld h).1))), (4, .int (zB (zw N (srt p) (stt p) (bed p) hm hc cr ld h).2)), (5, .int (nI h)), (6, .int (nI (cr (h + ld))))] rfl key
        · have h23 : ¬ h + ld ≤ 23 := by rwa [zn_le (by omega) (by omega)] at h165
          have ea : zw_aim (srt p) (stt p) (bed p) hm hc cr ld h (zw N (srt p) (stt p) (bed p) hm hc cr ld h).2 = cr (23) := by
            unfold zw_aim
            rw [if_neg (by omega), if_neg (by omega), if_pos hct, if_neg h23]
          rw [ecx]
          have hr9 : μ.1 66 ((8 * 23) + c) = nI (cr (23)) := by rw [hI.2.2 _ (by omega)]; exact hc3 _ (by omega)
          refine zq_go zt_X9_goesThrough 2 [] 137 [(0, .ref 50), (1, .int (nI p)), (2, .int (nI c)), (3, .int (nI ((zw N (srt p) (stt p) (bed p) hm hc cr ld h).1))), (4, .int (zB (zw N (srt p) (stt p) (bed p) hm hc cr ld h).2)), (5, .int (nI h)), (6, .int (nI (bed p)))] [.int (nI 23)] μ rfl trivial ?_
          refine zq_go zt_X9_goesThrough 10 [vp_in (((nI 8) * (nI 23)) + (nI c)) 192] 153 [(0, .ref 50), (1, .int (nI p)), (2, .int (nI c)), (3, .int (nI ((zw N (srt p) (stt p) (bed p) hm hc cr ld h).1))), (4, .int (zB (zw N (srt p) (stt p) (bed p) hm hc cr ld h).2)), (5, .int (nI h)), (6, .int (μ.1 66 ((((nI 8) * (nI 23)) + (nI c)).toNatClampNeg))), (7, .int (nI 23))] [] μ rfl ⟨zn_in (k := (8 * 23) + c) (by rw [zn_mul 8 23, zn_add (8 * 23) c]) (by omega) (by decide), trivial⟩ ?_
          rw [zn_mul 8 23, zn_add (8 * 23) c, zn_cl (n := (8 * 23) + c) (by omega), hr9]
          rw [ea, ecx] at key
          exact zq_drp [0, 1, 2, 3, 4, 5, 6] [(0, .ref 50), (1, .int (nI p)), (2, .int (nI c)), (3, .int (nI ((zw N (srt p) (stt p) (bed p) hm hc cr ld h).1))), (4, .int (zB (zw N (srt p) (stt p) (bed p) hm hc cr ld h).2)), (5, .int (nI h)), (6, .int (nI (cr (23))))] rfl key
set_option maxRecDepth 100000 in
set_option maxHeartbeats 4000000 in
theorem zs_goes {p np : Nat} {srt stt bed hm cr : Nat → Nat} {A : Nat → Nat → Nat → Bool} {N : Nat → Nat → Nat → Nat} {hc : Bool} {ld cx : Nat} {μ0 : zq_Me} (hP0 : zPm np srt stt bed μ0) (hpn : p < np) (hp : p < 8) (hl9 : ld ≤ 9) (hld0 : μ0.1 50 14 = nI ld) (hH0 : ∀ i, i < 24 → μ0.1 64 i = zdn (hm i) ∧ hm i ≤ 8) (hT0 : ∀ i, i < 24 → zT (A i) (64 * i) μ0) (hNA : ∀ h t x, h < 24 → t < 8 → x < 8 → zg_n (A h) t x = N h t x) (hNl : ∀ h t x, h < 24 → t < 8 → x < 8 → N h t x < 8) (hcr : ∀ h, h < 24 → cr h < 8) (hcx8 : cx ≤ 8) (hcx : hc = decide (¬ cx = 0)) (hcp : ∀ c, cx = c + 1 → srt p = 2 → c < 8 ∧ c ≠ p ∧ ∀ i, i < 24 → μ0.1 66 (8 * i + c) = nI (cr i)) : zq_Wp zn_X9_goesThrough 0 [(0, .ref 50), (1, .int (nI p)), (2, .int (zdn cx))] [] μ0 (fun r μ => r = none ∧ (zq_fr [66] μ0 μ ∧ (∀ i, i < 24 → μ.1 66 (8 * i + p) = nI (zw N (srt p) (stt p) (bed p) hm hc cr ld (i + 1)).1) ∧ ∀ q, q % 8 ≠ p → μ.1 66 q = μ0.1 66 q)) := by
  have hq := hP0.2.2 p hpn
  refine zq_go zt_X9_goesThrough 9 [vp_in (nI p) 9] 13 [(0, .ref 50), (1, .int (nI p)), (2, .int (zdn cx)), (3, .int (μ0.1 56 ((nI p).toNatClampNeg))), (4, .int (nI 1)), (5, .int (nI 0))] [] μ0 rfl ⟨zn_in (k := p) rfl (by omega) (by decide), trivial⟩ ?_
  rw [zn_cl (n := p) (by omega), hq.2.2.1]
  refine zs_goes_h hP0 hpn hp hl9 hld0 hH0 hT0 hNA hNl hcr hcx8 hcx hcp (fun μ1 hI => ?_) 24 0 μ0 (by omega) ⟨zq_fr.rf, fun i hi => absurd hi (Nat.not_lt_zero i), fun _ _ => rfl⟩
  exact zq_retn zt_X9_goesThrough rfl rfl ⟨rfl, hI⟩
