/-! ===== the ways that persons go ===== -/
/-- whither at hour h: by the ham (0 none), the child's way (hc: there is one), to the bed or from it -/
def zw_aim (sort start bed : Nat) (hm : Nat → Nat) (hc : Bool) (cr : Nat → Nat) (ld h : Nat) (tb : Bool) : Nat :=
  if sort = 0 then (if hm h = 0 then bed else hm h - 1) else if sort = 1 then (if tb = true then bed else start) else if hc = true then cr (if h + ld ≤ 23 then h + ld else 23) else bed
def zw (N : Nat → Nat → Nat → Nat) (sort start bed : Nat) (hm : Nat → Nat) (hc : Bool) (cr : Nat → Nat) (ld : Nat) : Nat → Nat × Bool
  | 0 => (start, true)
  | h + 1 => (N h (zw_aim sort start bed hm hc cr ld h (zw N sort start bed hm hc cr ld h).2) (zw N sort start bed hm hc cr ld h).1,
      if N h (zw_aim sort start bed hm hc cr ld h (zw N sort start bed hm hc cr ld h).2) (zw N sort start bed hm hc cr ld h).1 = zw_aim sort start bed hm hc cr ld h (zw N sort start bed hm hc cr ld h).2 then !(zw N sort start bed hm hc cr ld h).2 else (zw N sort start bed hm hc cr ld h).2)
theorem zw_lt {N : Nat → Nat → Nat → Nat} {sort start bed : Nat} {hm : Nat → Nat} {hc : Bool} {cr : Nat → Nat} {ld : Nat} (hN : ∀ h t x, h < 24 → t < 8 → x < 8 → N h t x < 8) (hs : start < 8) (hb : bed < 8) (hh : ∀ h, h < 24 → hm h ≤ 8) (hcr : ∀ h, h < 24 → cr h < 8) : ∀ h, h ≤ 24 → (zw N sort start bed hm hc cr ld h).1 < 8 ∧ ∀ tb, h < 24 → zw_aim sort start bed hm hc cr ld h tb < 8 := by
  have aim : ∀ h tb, h < 24 → zw_aim sort start bed hm hc cr ld h tb < 8 := by
    intro h tb h24
    have h1 := hh h h24
    unfold zw_aim
    split
    · split <;> omega
    · split
      · split <;> omega
      · split
        · split
          · exact hcr _ (by omega)
          · exact hcr 23 (by decide)
        · exact hb
  intro h
  induction h with
  | zero => exact fun _ => ⟨hs, fun tb => aim 0 tb⟩
  | succ h ih => exact fun h24 => ⟨hN h _ _ (by omega) (aim h _ (by omega)) (ih (by omega)).1, fun tb => aim (h + 1) tb⟩
theorem zh_e_0 {ek eh en : Nat → Nat} {wo h : Nat} {s : Nat × Nat} : ∀ e, (zh_e ek eh en wo h e s).1 = 0 → s.1 = 0
  | 0, hz => hz
  | e + 1, hz => by
    unfold zh_e at hz
    split at hz
    · split at hz
      · exact absurd hz (Nat.succ_ne_zero _)
      · exact zh_e_0 e hz
    · exact zh_e_0 e hz
theorem zh_0 {ek eh en : Nat → Nat} {wo ne : Nat} : ∀ {h i : Nat}, i ≤ h → (zh ek eh en wo ne h).1 = 0 → (zh ek eh en wo ne i).1 = 0
  | 0, i, hi, hz => by obtain rfl : i = 0 := by omega
                       exact hz
  | h + 1, i, hi, hz => by
    by_cases he : i = h + 1
    · rw [he]; exact hz
    · exact zh_0 (h := h) (by omega) (zh_e_0 ne hz)
theorem zdn_m1 {n : Nat} (hn : n < 2 ^ 31) : (zdn n = -1) = (n = 0) := by
  cases n with
  | zero => exact propext ⟨fun _ => rfl, fun _ => rfl⟩
  | succ n => exact propext ⟨fun h => absurd h (zn_neg1 (by omega)), fun h => absurd h (Nat.succ_ne_zero n)⟩
theorem zn_min {a b : Nat} (ha : a < 2 ^ 31) (hb : b < 2 ^ 31) : (if nI b < nI a then nI b else nI a) = nI (if a ≤ b then a else b) := by
  by_cases h : b < a
  · rw [if_pos (by rw [zn_lt hb ha]; exact h), if_neg (by omega)]
  · rw [if_neg (by rw [zn_lt hb ha]; exact h), if_pos (by omega)]
/-- the people as a week sees them -/
def zP33 (np : Nat) (srt stt bed : Nat → Nat) (μ : zq_Me) : Prop := np ≤ 8 ∧ μ.1 6 5 = nI np ∧ ∀ p, p < np → (if nI p = μ.1 33 11 ∧ ¬ μ.1 33 12 = -1 then μ.1 33 12 else μ.1 8 p) = nI (srt p) ∧ srt p ≤ 2 ∧ μ.1 9 p = nI (stt p) ∧ stt p < 8 ∧ (if nI p = μ.1 33 11 ∧ ¬ μ.1 33 13 = -1 then μ.1 33 13 else μ.1 10 p) = nI (bed p) ∧ bed p < 8
theorem zP33.fr {np : Nat} {srt stt bed : Nat → Nat} {μ μ1 : zq_Me} {S : List Nat} (h : zP33 np srt stt bed μ) (hf : zq_fr S μ μ1) (hs : 6 ∉ S ∧ 8 ∉ S ∧ 9 ∉ S ∧ 10 ∉ S ∧ 33 ∉ S) : zP33 np srt stt bed μ1 := by
  obtain ⟨a, b, c⟩ := h
  obtain ⟨s1, s2, s3, s4, s5⟩ := hs
  exact ⟨a, by rw [hf.a s1]; exact b, fun e he => by rw [hf.a s2, hf.a s3, hf.a s4, hf.a s5]; exact c e he⟩
theorem zP33.sl {np : Nat} {srt stt bed : Nat → Nat} {μ μ1 : zq_Me} (h : zP33 np srt stt bed μ) (h6 : μ1.1 6 = μ.1 6) (h8 : μ1.1 8 = μ.1 8) (h9 : μ1.1 9 = μ.1 9) (h10 : μ1.1 10 = μ.1 10) (hw : μ1.1 33 11 = μ.1 33 11 ∧ μ1.1 33 12 = μ.1 33 12 ∧ μ1.1 33 13 = μ.1 33 13) : zP33 np srt stt bed μ1 := by
  obtain ⟨a, b, c⟩ := h
  exact ⟨a, by rw [h6]; exact b, fun e he => by rw [h8, h9, h10, hw.1, hw.2.1, hw.2.2]; exact c e he⟩
set_option maxRecDepth 100000 in
set_option maxHeartbeats 4000000 in
theorem zs_sortOf33 {np : Nat} {srt stt bed : Nat → Nat} {μ : zq_Me} (hP : zP33 np srt stt bed μ) {p : Nat} (hp : p < np) : zq_Wp zn_X7_sortOf 0 [(0, .ref 33), (1, .int (nI p))] [] μ (zq_pi (nI (srt p)) μ) := by
  have e9 := (hP.2.2 p hp).1
  have hnp := hP.1
  refine zq_go zt_X7_sortOf 4 [] (if ¬ (nI p) = (μ.1 33 11) then 23 else 8) [(0, .ref 33), (1, .int (nI p))] [] μ rfl trivial ?_
  refine zq_ite (fun h3 => ?_) (fun h3 => ?_)
  · refine zq_go zt_X7_sortOf 5 [vp_in (nI p) 8] 32 [(0, .ref 33), (1, .int (nI p))] [.int (μ.1 8 ((nI p).toNatClampNeg))] μ rfl ⟨zn_in (k := p) rfl (by have := hP.1; omega) (by decide), trivial⟩ ?_
    rw [zn_cl (n := p) (by omega)]
    rw [if_neg (fun q => h3 q.1)] at e9
    rw [e9]
    exact zq_retn zt_X7_sortOf rfl rfl (⟨rfl, rfl⟩)
  · refine zq_go zt_X7_sortOf 4 [] (if (μ.1 33 12) = (-1) then 23 else 16) [(0, .ref 33), (1, .int (nI p))] [] μ rfl trivial ?_
    refine zq_ite (fun h10 => ?_) (fun h10 => ?_)
    · refine zq_go zt_X7_sortOf 5 [vp_in (nI p) 8] 32 [(0, .ref 33), (1, .int (nI p))] [.int (μ.1 8 ((nI p).toNatClampNeg))] μ rfl ⟨zn_in (k := p) rfl (by have := hP.1; omega) (by decide), trivial⟩ ?_
      rw [zn_cl (n := p) (by omega)]
      rw [if_neg (fun q => q.2 h10)] at e9
      rw [e9]
      exact zq_retn zt_X7_sortOf rfl rfl (⟨rfl, rfl⟩)
    · refine zq_go zt_X7_sortOf 3 [] 32 [(0, .ref 33), (1, .int (nI p))] [.int (μ.1 33 12)] μ rfl trivial ?_
      rw [if_pos ⟨Classical.not_not.mp h3, h10⟩] at e9
      rw [e9]
      exact zq_retn zt_X7_sortOf rfl rfl (⟨rfl, rfl⟩)
set_option maxRecDepth 100000 in
set_option maxHeartbeats 4000000 in
theorem zs_bedOf33 {np : Nat} {srt stt bed : Nat → Nat} {μ : zq_Me} (hP : zP33 np srt stt bed μ) {p : Nat} (hp : p < np) : zq_Wp zn_X7_bedOf 0 [(0, .ref 33), (1, .int (nI p))] [] μ (zq_pi (nI (bed p)) μ) := by
  have e9 := (hP.2.2 p hp).2.2.2.2.1
  have hnp := hP.1
  refine zq_go zt_X7_bedOf 4 [] (if ¬ (nI p) = (μ.1 33 11) then 23 else 8) [(0, .ref 33), (1, .int (nI p))] [] μ rfl trivial ?_
  refine zq_ite (fun h3 => ?_) (fun h3 => ?_)
  · refine zq_go zt_X7_bedOf 5 [vp_in (nI p) 8] 32 [(0, .ref 33), (1, .int (nI p))] [.int (μ.1 10 ((nI p).toNatClampNeg))] μ rfl ⟨zn_in (k := p) rfl (by have := hP.1; omega) (by decide), trivial⟩ ?_
    rw [zn_cl (n := p) (by omega)]
    rw [if_neg (fun q => h3 q.1)] at e9
    rw [e9]
    exact zq_retn zt_X7_bedOf rfl rfl (⟨rfl, rfl⟩)
  · refine zq_go zt_X7_bedOf 4 [] (if (μ.1 33 13) = (-1) then 23 else 16) [(0, .ref 33), (1, .int (nI p))] [] μ rfl trivial ?_
    refine zq_ite (fun h10 => ?_) (fun h10 => ?_)
    · refine zq_go zt_X7_bedOf 5 [vp_in (nI p) 8] 32 [(0, .ref 33), (1, .int (nI p))] [.int (μ.1 10 ((nI p).toNatClampNeg))] μ rfl ⟨zn_in (k := p) rfl (by have := hP.1; omega) (by decide), trivial⟩ ?_
      rw [zn_cl (n := p) (by omega)]
      rw [if_neg (fun q => q.2 h10)] at e9
      rw [e9]
      exact zq_retn zt_X7_bedOf rfl rfl (⟨rfl, rfl⟩)
    · refine zq_go zt_X7_bedOf 3 [] 32 [(0, .ref 33), (1, .int (nI p))] [.int (μ.1 33 13)] μ rfl trivial ?_
      rw [if_pos ⟨Classical.not_not.mp h3, h10⟩] at e9
      rw [e9]
      exact zq_retn zt_X7_bedOf rfl rfl (⟨rfl, rfl⟩)
set_option maxRecDepth 100000 in
set_option maxHeartbeats 4000000 in
theorem zs_roomOf33 {μ : zq_Me} {h p r : Nat} (hh : h < 24) (hp : p < 8) (hr0 : μ.1 34 (h * 8 + p) = nI r) : zq_Wp zn_X7_roomOf 0 [(0, .ref 33), (1, .int (nI h)), (2, .int (nI p))] [] μ (zq_pi (nI r) μ) := by
  have hr : μ.1 34 ((h * 8) + p) = nI r := hr0
  refine zq_go zt_X7_roomOf 8 [vp_in (((nI h) * (nI 8)) + (nI p)) 192] 11 [(0, .ref 33), (1, .int (nI h)), (2, .int (nI p))] [.int (μ.1 34 ((((nI h) * (nI 8)) + (nI p)).toNatClampNeg))] μ rfl ⟨zn_in (k := (h * 8) + p) (by rw [zn_mul h 8, zn_add (h * 8) p]) (by omega) (by decide), trivial⟩ ?_
  rw [zn_mul h 8, zn_add (h * 8) p, zn_cl (n := (h * 8) + p) (by omega), hr]
  exact zq_retn zt_X7_roomOf rfl rfl (⟨rfl, rfl⟩)
set_option maxRecDepth 100000 in
set_option maxHeartbeats 4000000 in
theorem zs_walk33_h {Q : zq_Post} {p : Nat} (hp : p < 8) {srt stt bed hm cr tb : Nat → Nat} {N : Nat → Nat → Nat → Nat} {hc : Bool} {ld cx : Nat} {μ0 : zq_Me} (hs2 : srt p ≤ 2) (hst : stt p < 8) (hbd : bed p < 8) (hl9 : ld ≤ 9) (hld0 : μ0.1 33 10 = nI ld) (hH0 : ∀ i, i < 24 → μ0.1 35 i = zdn (hm i) ∧ hm i ≤ 8) (hm0 : ∀ h i, i ≤ h → h < 24 → hm h = 0 → hm i = 0) (hT0 : ∀ i, i < 24 → μ0.1 37 i = nI (tb i * 64) ∧ tb i ≤ 8) (hN0 : ∀ i x t, i < 24 → x < 8 → t < 8 → μ0.1 38 (tb i * 64 + x * 8 + t) = nI (N i t x)) (hNl : ∀ h t x, h < 24 → t < 8 → x < 8 → N h t x < 8) (hcr : ∀ h, h < 24 → cr h < 8) (hcx8 : cx ≤ 8) (hcx : hc = decide (¬ cx = 0)) (hcp : ∀ c, cx = c + 1 → c < 8 ∧ c ≠ p ∧ ∀ i, i < 24 → μ0.1 34 (i * 8 + c) = nI (cr i)) (kk : ∀ μ : zq_Me, (zq_fr [34] μ0 μ ∧ (∀ i, i < 24 → μ.1 34 (i * 8 + p) = nI (zw N (srt p) (stt p) (bed p) hm hc cr ld (i + 1)).1) ∧ ∀ q, q % 8 ≠ p → μ.1 34 q = μ0.1 34 q) → zq_Wp zn_X7_walk 169 [] [] μ Q) : ∀ (j h a : Nat) (μ : zq_Me), h + j = 24 → a < 8 → ((srt p = 1 → a = if (zw N (srt p) (stt p) (bed p) hm hc cr ld h).2 = true then bed p else stt p) ∧ (srt p = 0 → (∀ i, i < h → hm i = 0) → a = bed p) ∧ (srt p = 2 → hc = false → a = bed p)) → (zq_fr [34] μ0 μ ∧ (∀ i, i < h → μ.1 34 (i * 8 + p) = nI (zw N (srt p) (stt p) (bed p) hm hc cr ld (i + 1)).1) ∧ ∀ q, q % 8 ≠ p → μ.1 34 q = μ0.1 34 q) → zq_Wp zn_X7_walk 35 [(0, .ref 33), (1, .int (nI p)), (2, .int (zdn cx)), (3, .int (nI (srt p))), (4, .int (nI (bed p))), (5, .int (nI (stt p))), (6, .int (nI ((zw N (srt p) (stt p) (bed p) hm hc cr ld h).1))), (7, .int (nI a)), (8, .int (nI h))] [] μ Q := by
  intro j
  induction j with
  | zero =>
    intro h a μ hij ha hJ hI
    obtain rfl : h = 24 := by omega
    refine zq_go zt_X7_walk 3 [] (if (nI 24) ≤ (nI 24) then 169 else 42) [(0, .ref 33), (1, .int (nI p)), (2, .int (zdn cx)), (3, .int (nI (srt p))), (4, .int (nI (bed p))), (5, .int (nI (stt p))), (6, .int (nI ((zw N (srt p) (stt p) (bed p) hm hc cr ld 24).1))), (7, .int (nI a)), (8, .int (nI 24))] [] μ rfl trivial ?_
    rw [if_pos (by decide)]
    exact zq_drp [] [] rfl (kk μ hI)
  | succ j ih =>
    intro h a μ hij ha hJ hI
    have hld : μ.1 33 10 = nI ld := by rw [hI.1.a (b := 33) (by decide)]; exact hld0
    have hH : ∀ i, i < 24 → μ.1 35 i = zdn (hm i) ∧ hm i ≤ 8 := fun i hi => by rw [hI.1.a (b := 35) (by decide)]; exact hH0 i hi
    have hT : ∀ i, i < 24 → μ.1 37 i = nI (tb i * 64) ∧ tb i ≤ 8 := fun i hi => by rw [hI.1.a (b := 37) (by decide)]; exact hT0 i hi
    have hN : ∀ i x t, i < 24 → x < 8 → t < 8 → μ.1 38 (tb i * 64 + x * 8 + t) = nI (N i t x) := fun i x t hi hx ht => by rw [hI.1.a (b := 38) (by decide)]; exact hN0 i x t hi hx ht
    have hzl := zw_lt (sort := srt p) (hc := hc) (cr := cr) (ld := ld) hNl hst hbd (fun i hi => (hH0 i hi).2) hcr h (by omega)
    have hz1 := hzl.1
    have hz2 := hzl.2 (zw N (srt p) (stt p) (bed p) hm hc cr ld h).2 (by omega)
    have htb := (hT h (by omega)).2
    have key : zq_Wp zn_X7_walk 98 [(0, .ref 33), (1, .int (nI p)), (2, .int (zdn cx)), (3, .int (nI (srt p))), (4, .int (nI (bed p))), (5, .int (nI (stt p))), (6, .int (nI ((zw N (srt p) (stt p) (bed p) hm hc cr ld h).1))), (7, .int (nI (zw_aim (srt p) (stt p) (bed p) hm hc cr ld h (zw N (srt p) (stt p) (bed p) hm hc cr ld h).2))), (8, .int (nI h))] [] μ Q := by
      have hz3 : N h (zw_aim (srt p) (stt p) (bed p) hm hc cr ld h (zw N (srt p) (stt p) (bed p) hm hc cr ld h).2) (zw N (srt p) (stt p) (bed p) hm hc cr ld h).1 < 8 := hNl h _ _ (by omega) hz2 hz1
      have e1 : N h (zw_aim (srt p) (stt p) (bed p) hm hc cr ld h (zw N (srt p) (stt p) (bed p) hm hc cr ld h).2) (zw N (srt p) (stt p) (bed p) hm hc cr ld h).1 = (zw N (srt p) (stt p) (bed p) hm hc cr ld (h + 1)).1 := rfl
      rw [e1] at hz3
      have hn9 : μ.1 38 (((tb h * 64) + (((zw N (srt p) (stt p) (bed p) hm hc cr ld h).1) * 8)) + (zw_aim (srt p) (stt p) (bed p) hm hc cr ld h (zw N (srt p) (stt p) (bed p) hm hc cr ld h).2)) = nI (zw N (srt p) (stt p) (bed p) hm hc cr ld (h + 1)).1 := hN h _ _ (by omega) hz1 hz2
      refine zq_go zt_X7_walk 12 [vp_in (nI h) 24] 118 [(0, .ref 33), (1, .int (nI p)), (2, .int (zdn cx)), (3, .int (nI (srt p))), (4, .int (nI (bed p))), (5, .int (nI (stt p))), (6, .int (nI ((zw N (srt p) (stt p) (bed p) hm hc cr ld h).1))), (7, .int (nI (zw_aim (srt p) (stt p) (bed p) hm hc cr ld h (zw N (srt p) (stt p) (bed p) hm hc cr ld h).2))), (8, .int (nI h))] [.int (((μ.1 37 ((nI h).toNatClampNeg)) + ((nI ((zw N (srt p) (stt p) (bed p) hm hc cr ld h).1)) * (nI 8))) + (nI (zw_aim (srt p) (stt p) (bed p) hm hc cr ld h (zw N (srt p) (stt p) (bed p) hm hc cr ld h).2))), .ref 38] μ rfl ⟨zn_in (k := h) rfl (by omega) (by decide), trivial⟩ ?_
      rw [zn_cl (n := h) (by omega), (hT h (by omega)).1, zn_mul ((zw N (srt p) (stt p) (bed p) hm hc cr ld h).1) 8, zn_add (tb h * 64) (((zw N (srt p) (stt p) (bed p) hm hc cr ld h).1) * 8), zn_add ((tb h * 64) + (((zw N (srt p) (stt p) (bed p) hm hc cr ld h).1) * 8)) (zw_aim (srt p) (stt p) (bed p) hm hc cr ld h (zw N (srt p) (stt p) (bed p) hm hc cr ld h).2)]
      refine zq_go zt_X7_walk 14 [vp_in (nI (((tb h * 64) + (((zw N (srt p) (stt p) (bed p) hm hc cr ld h).1) * 8)) + (zw_aim (srt p) (stt p) (bed p) hm hc cr ld h (zw N (srt p) (stt p) (bed p) hm hc cr ld h).2))) 576, vp_in (((nI h) * (nI 8)) + (nI p)) 192] (if ¬ (nI (srt p)) = (nI 1) then 163 else 140) [(0, .ref 33), (1, .int (nI p)), (2, .int (zdn cx)), (3, .int (nI (srt p))), (4, .int (nI (bed p))), (5, .int (nI (stt p))), (6, .int (μ.1 38 ((nI (((tb h * 64) + (((zw N (srt p) (stt p) (bed p) hm hc cr ld h).1) * 8)) + (zw_aim (srt p) (stt p) (bed p) hm hc cr ld h (zw N (srt p) (stt p) (bed p) hm hc cr ld h).2))).toNatClampNeg))), (7, .int (nI (zw_aim (srt p) (stt p) (bed p) hm hc cr ld h (zw N (srt p) (stt p) (bed p) hm hc cr ld h).2))), (8, .int (nI h))] [] (zq_u1 μ 34 ((((nI h) * (nI 8)) + (nI p)).toNatClampNeg) (μ.1 38 ((nI (((tb h * 64) + (((zw N (srt p) (stt p) (bed p) hm hc cr ld h).1) * 8)) + (zw_aim (srt p) (stt p) (bed p) hm hc cr ld h (zw N (srt p) (stt p) (bed p) hm hc cr ld h).2))).toNatClampNeg))) rfl ⟨zn_in (k := ((tb h * 64) + (((zw N (srt p) (stt p) (bed p) hm hc cr ld h).1) * 8)) + (zw_aim (srt p) (stt p) (bed p) hm hc cr ld h (zw N (srt p) (stt p) (bed p) hm hc cr ld h).2)) rfl (by omega) (by decide), ⟨zn_in (k := (h * 8) + p) (by rw [zn_mul h 8, zn_add (h * 8) p]) (by omega) (by decide), trivial⟩⟩ ?_
      rw [zn_cl (n := ((tb h * 64) + (((zw N (srt p) (stt p) (bed p) hm hc cr ld h).1) * 8)) + (zw_aim (srt p) (stt p) (bed p) hm hc cr ld h (zw N (srt p) (stt p) (bed p) hm hc cr ld h).2)) (by omega), hn9, zn_mul h 8, zn_add (h * 8) p, zn_cl (n := (h * 8) + p) (by omega)]
      refine zq_ite (fun h27 => ?_) (fun h27 => ?_)
      · have hs9 : ¬ srt p = 1 := by
          rw [zn_eq (by omega) (by decide)] at h27
          exact h27
        refine zq_go zt_X7_walk 2 [] 35 [(0, .ref 33), (1, .int (nI p)), (2, .int (zdn cx)), (3, .int (nI (srt p))), (4, .int (nI (bed p))), (5, .int (nI (stt p))), (6, .int (nI ((zw N (srt p) (stt p) (bed p) hm hc cr ld (h + 1)).1))), (7, .int (nI (zw_aim (srt p) (stt p) (bed p) hm hc cr ld h (zw N (srt p) (stt p) (bed p) hm hc cr ld h).2))), (8, .int ((nI h) + (nI 1)))] [] (zq_u1 μ 34 ((h * 8) + p) (nI ((zw N (srt p) (stt p) (bed p) hm hc cr ld (h + 1)).1))) rfl trivial ?_
        rw [zn_add h 1]
        refine ih (h + 1) _ _ (by omega) hz2 ⟨fun q => absurd q hs9, fun q hq => ?_, fun q hq => ?_⟩ ⟨hI.1.u1 (by simp), fun i hi => ?_, fun q hq => ?_⟩
        · unfold zw_aim
          rw [if_pos q, if_pos (hq h (by omega))]
        · unfold zw_aim
          rw [if_neg (by omega), if_neg hs9, hq]
          rfl
        · rw [zq_u1_rd]
          by_cases h8 : i = h
          · subst h8; rw [if_pos rfl]
          · rw [if_neg (by omega)]; exact hI.2.1 i (by omega)
        · rw [zq_u1_o2 (by omega)]; exact hI.2.2 q hq
      · have hs9 : srt p = 1 := by
          rw [zn_eq (by omega) (by decide)] at h27
          omega
        have ea : zw_aim (srt p) (stt p) (bed p) hm hc cr ld h (zw N (srt p) (stt p) (bed p) hm hc cr ld h).2 = if (zw N (srt p) (stt p) (bed p) hm hc cr ld h).2 = true then bed p else stt p := by
          unfold zw_aim
          rw [if_neg (by omega), if_pos hs9]
        refine zq_go zt_X7_walk 3 [] (if ¬ (nI ((zw N (srt p) (stt p) (bed p) hm hc cr ld (h + 1)).1)) = (nI (zw_aim (srt p) (stt p) (bed p) hm hc cr ld h (zw N (srt p) (stt p) (bed p) hm hc cr ld h).2)) then 163 else 147) [(0, .ref 33), (1, .int (nI p)), (2, .int (zdn cx)), (3, .int (nI (srt p))), (4, .int (nI (bed p))), (5, .int (nI (stt p))), (6, .int (nI ((zw N (srt p) (stt p) (bed p) hm hc cr ld (h + 1)).1))), (7, .int (nI (zw_aim (srt p) (stt p) (bed p) hm hc cr ld h (zw N (srt p) (stt p) (bed p) hm hc cr ld h).2))), (8, .int (nI h))] [] (zq_u1 μ 34 ((h * 8) + p) (nI ((zw N (srt p) (stt p) (bed p) hm hc cr ld (h + 1)).1))) rfl trivial ?_
        refine zq_ite (fun h51 => ?_) (fun h51 => ?_)
        · have hne : ¬ (zw N (srt p) (stt p) (bed p) hm hc cr ld (h + 1)).1 = zw_aim (srt p) (stt p) (bed p) hm hc cr ld h (zw N (srt p) (stt p) (bed p) hm hc cr ld h).2 := by
            rw [zn_eq (by omega) (by omega)] at h51
            exact h51
          have et : (zw N (srt p) (stt p) (bed p) hm hc cr ld (h + 1)).2 = (zw N (srt p) (stt p) (bed p) hm hc cr ld h).2 := if_neg hne
          refine zq_go zt_X7_walk 2 [] 35 [(0, .ref 33), (1, .int (nI p)), (2, .int (zdn cx)), (3, .int (nI (srt p))), (4, .int (nI (bed p))), (5, .int (nI (stt p))), (6, .int (nI ((zw N (srt p) (stt p) (bed p) hm hc cr ld (h + 1)).1))), (7, .int (nI (zw_aim (srt p) (stt p) (bed p) hm hc cr ld h (zw N (srt p) (stt p) (bed p) hm hc cr ld h).2))), (8, .int ((nI h) + (nI 1)))] [] (zq_u1 μ 34 ((h * 8) + p) (nI ((zw N (srt p) (stt p) (bed p) hm hc cr ld (h + 1)).1))) rfl trivial ?_
          rw [zn_add h 1]
          refine ih (h + 1) _ _ (by omega) hz2 ⟨fun q => by rw [et]; exact ea, fun q _ => by omega, fun q _ => by omega⟩ ⟨hI.1.u1 (by simp), fun i hi => ?_, fun q hq => ?_⟩
          · rw [zq_u1_rd]
            by_cases h8 : i = h
            · subst h8; rw [if_pos rfl]
            · rw [if_neg (by omega)]; exact hI.2.1 i (by omega)
          · rw [zq_u1_o2 (by omega)]; exact hI.2.2 q hq
        · have hne : (zw N (srt p) (stt p) (bed p) hm hc cr ld (h + 1)).1 = zw_aim (srt p) (stt p) (bed p) hm hc cr ld h (zw N (srt p) (stt p) (bed p) hm hc cr ld h).2 := by
            rw [zn_eq (by omega) (by omega)] at h51
            omega
          have et : (zw N (srt p) (stt p) (bed p) hm hc cr ld (h + 1)).2 = !(zw N (srt p) (stt p) (bed p) hm hc cr ld h).2 := if_pos hne
          refine zq_go zt_X7_walk 3 [] (if ¬ (nI (zw_aim (srt p) (stt p) (bed p) hm hc cr ld h (zw N (srt p) (stt p) (bed p) hm hc cr ld h).2)) = (nI (bed p)) then 159 else 154) [(0, .ref 33), (1, .int (nI p)), (2, .int (zdn cx)), (3, .int (nI (srt p))), (4, .int (nI (bed p))), (5, .int (nI (stt p))), (6, .int (nI ((zw N (srt p) (stt p) (bed p) hm hc cr ld (h + 1)).1))), (7, .int (nI (zw_aim (srt p) (stt p) (bed p) hm hc cr ld h (zw N (srt p) (stt p) (bed p) hm hc cr ld h).2))), (8, .int (nI h))] [] (zq_u1 μ 34 ((h * 8) + p) (nI ((zw N (srt p) (stt p) (bed p) hm hc cr ld (h + 1)).1))) rfl trivial ?_
          refine zq_ite (fun h69 => ?_) (fun h69 => ?_)
          · have hb9 : ¬ zw_aim (srt p) (stt p) (bed p) hm hc cr ld h (zw N (srt p) (stt p) (bed p) hm hc cr ld h).2 = bed p := by
              rw [zn_eq (by omega) (by omega)] at h69
              exact h69
            refine zq_go zt_X7_walk 4 [] 35 [(0, .ref 33), (1, .int (nI p)), (2, .int (zdn cx)), (3, .int (nI (srt p))), (4, .int (nI (bed p))), (5, .int (nI (stt p))), (6, .int (nI ((zw N (srt p) (stt p) (bed p) hm hc cr ld (h + 1)).1))), (7, .int (nI (bed p))), (8, .int ((nI h) + (nI 1)))] [] (zq_u1 μ 34 ((h * 8) + p) (nI ((zw N (srt p) (stt p) (bed p) hm hc cr ld (h + 1)).1))) rfl trivial ?_
            rw [zn_add h 1]
            refine ih (h + 1) _ _ (by omega) hbd ⟨fun q => ?_, fun q _ => by omega, fun q _ => by omega⟩ ⟨hI.1.u1 (by simp), fun i hi => ?_, fun q hq => ?_⟩
            · rw [et]
              cases htb9 : (zw N (srt p) (stt p) (bed p) hm hc cr ld h).2 with
              | true => exact absurd (ea.trans (by rw [htb9]; rfl)) hb9
              | false => rfl
            · rw [zq_u1_rd]
              by_cases h8 : i = h
              · subst h8; rw [if_pos rfl]
              · rw [if_neg (by omega)]; exact hI.2.1 i (by omega)
            · rw [zq_u1_o2 (by omega)]; exact hI.2.2 q hq
          · have hb9 : zw_aim (srt p) (stt p) (bed p) hm hc cr ld h (zw N (srt p) (stt p) (bed p) hm hc cr ld h).2 = bed p := by
              rw [zn_eq (by omega) (by omega)] at h69
              omega
            refine zq_go zt_X7_walk 2 [] 161 [(0, .ref 33), (1, .int (nI p)), (2, .int (zdn cx)), (3, .int (nI (srt p))), (4, .int (nI (bed p))), (5, .int (nI (stt p))), (6, .int (nI ((zw N (srt p) (stt p) (bed p) hm hc cr ld (h + 1)).1))), (7, .int (nI (zw_aim (srt p) (stt p) (bed p) hm hc cr ld h (zw N (srt p) (stt p) (bed p) hm hc cr ld h).2))), (8, .int (nI h))] [.int (nI (stt p))] (zq_u1 μ 34 ((h * 8) + p) (nI ((zw N (srt p) (stt p) (bed p) hm hc cr ld (h + 1)).1))) rfl trivial ?_
            refine zq_go zt_X7_walk 3 [] 35 [(0, .ref 33), (1, .int (nI p)), (2, .int (zdn cx)), (3, .int (nI (srt p))), (4, .int (nI (bed p))), (5, .int (nI (stt p))), (6, .int (nI ((zw N (srt p) (stt p) (bed p) hm hc cr ld (h + 1)).1))), (7, .int (nI (stt p))), (8, .int ((nI h) + (nI 1)))] [] (zq_u1 μ 34 ((h * 8) + p) (nI ((zw N (srt p) (stt p) (bed p) hm hc cr ld (h + 1)).1))) rfl trivial ?_
            rw [zn_add h 1]
            refine ih (h + 1) _ _ (by omega) hst ⟨fun q => ?_, fun q _ => by omega, fun q _ => by omega⟩ ⟨hI.1.u1 (by simp), fun i hi => ?_, fun q hq => ?_⟩
            · rw [et]
              cases htb9 : (zw N (srt p) (stt p) (bed p) hm hc cr ld h).2 with
              | true => rfl
              | false =>
                have ea9 : zw_aim (srt p) (stt p) (bed p) hm hc cr ld h (zw N (srt p) (stt p) (bed p) hm hc cr ld h).2 = stt p := ea.trans (by rw [htb9]; rfl)
                exact ea9.symm.trans hb9
            · rw [zq_u1_rd]
              by_cases h8 : i = h
              · subst h8; rw [if_pos rfl]
              · rw [if_neg (by omega)]; exact hI.2.1 i (by omega)
            · rw [zq_u1_o2 (by omega)]; exact hI.2.2 q hq
    refine zq_go zt_X7_walk 3 [] (if (nI 24) ≤ (nI h) then 169 else 42) [(0, .ref 33), (1, .int (nI p)), (2, .int (zdn cx)), (3, .int (nI (srt p))), (4, .int (nI (bed p))), (5, .int (nI (stt p))), (6, .int (nI ((zw N (srt p) (stt p) (bed p) hm hc cr ld h).1))), (7, .int (nI a)), (8, .int (nI h))] [] μ rfl trivial ?_
    rw [if_neg (by rw [zn_le (by omega) (by omega)]; omega)]
    refine zq_go zt_X7_walk 3 [] (if ¬ (nI (srt p)) = (nI 2) then 74 else 47) [(0, .ref 33), (1, .int (nI p)), (2, .int (zdn cx)), (3, .int (nI (srt p))), (4, .int (nI (bed p))), (5, .int (nI (stt p))), (6, .int (nI ((zw N (srt p) (stt p) (bed p) hm hc cr ld h).1))), (7, .int (nI a)), (8, .int (nI h))] [] μ rfl trivial ?_
    refine zq_ite (fun h106 => ?_) (fun h106 => ?_)
    · have h29 : ¬ srt p = 2 := by
        rw [zn_eq (by omega) (by decide)] at h106
        exact h106
      refine zq_go zt_X7_walk 2 [] (if ¬ (nI (srt p)) = 0 then 98 else 78) [(0, .ref 33), (1, .int (nI p)), (2, .int (zdn cx)), (3, .int (nI (srt p))), (4, .int (nI (bed p))), (5, .int (nI (stt p))), (6, .int (nI ((zw N (srt p) (stt p) (bed p) hm hc cr ld h).1))), (7, .int (nI a)), (8, .int (nI h))] [] μ rfl trivial ?_
      refine zq_ite (fun h111 => ?_) (fun h111 => ?_)
      · have h09 : ¬ srt p = 0 := by
          rw [show (0 : Int32) = nI 0 from rfl, zn_eq (by omega) (by decide)] at h111
          exact h111
        have ea : a = zw_aim (srt p) (stt p) (bed p) hm hc cr ld h (zw N (srt p) (stt p) (bed p) hm hc cr ld h).2 := by
          unfold zw_aim
          rw [if_neg h09]
          by_cases h1 : srt p = 1
          · rw [if_pos h1]; exact hJ.1 h1
          · rw [if_neg h1]
            have h2 : srt p = 2 := by omega
            have hcf : hc = false := absurd h2 h29
            rw [hcf]; exact hJ.2.2 h2 hcf
        rw [ea]; exact key
      · have h09 : srt p = 0 := by
          rw [show (0 : Int32) = nI 0 from rfl, zn_eq (by omega) (by decide)] at h111
          omega
        refine zq_go zt_X7_walk 6 [vp_in (nI h) 24] (if (μ.1 35 ((nI h).toNatClampNeg)) = (-1) then 98 else 89) [(0, .ref 33), (1, .int (nI p)), (2, .int (zdn cx)), (3, .int (nI (srt p))), (4, .int (nI (bed p))), (5, .int (nI (stt p))), (6, .int (nI ((zw N (srt p) (stt p) (bed p) hm hc cr ld h).1))), (7, .int (nI a)), (8, .int (nI h))] [] μ rfl ⟨zn_in (k := h) rfl (by omega) (by decide), trivial⟩ ?_
        rw [zn_cl (n := h) (by omega), (hH h (by omega)).1]
        refine zq_ite (fun h130 => ?_) (fun h130 => ?_)
        · rw [zdn_m1 (by have := (hH h (by omega)).2; omega)] at h130
          have ea : a = zw_aim (srt p) (stt p) (bed p) hm hc cr ld h (zw N (srt p) (stt p) (bed p) hm hc cr ld h).2 := by
            unfold zw_aim
            rw [if_pos h09, if_pos h130]
            exact hJ.2.1 h09 (fun i hi => hm0 h i (by omega) (by omega) h130)
          rw [ea]; exact key
        · rw [zdn_m1 (by have := (hH h (by omega)).2; omega)] at h130
          obtain ⟨r, hr⟩ : ∃ r, hm h = r + 1 := ⟨hm h - 1, by omega⟩
          have ea : zw_aim (srt p) (stt p) (bed p) hm hc cr ld h (zw N (srt p) (stt p) (bed p) hm hc cr ld h).2 = r := by
            unfold zw_aim
            rw [if_pos h09, if_neg h130, hr]
            rfl
          refine zq_go zt_X7_walk 5 [vp_in (nI h) 24] 98 [(0, .ref 33), (1, .int (nI p)), (2, .int (zdn cx)), (3, .int (nI (srt p))), (4, .int (nI (bed p))), (5, .int (nI (stt p))), (6, .int (nI ((zw N (srt p) (stt p) (bed p) hm hc cr ld h).1))), (7, .int (μ.1 35 ((nI h).toNatClampNeg))), (8, .int (nI h))] [] μ rfl ⟨zn_in (k := h) rfl (by omega) (by decide), trivial⟩ ?_
          rw [zn_cl (n := h) (by omega), (hH h (by omega)).1]
          rw [hr]
          rw [ea] at key
          exact key
    · have h29 : srt p = 2 := by
        rw [zn_eq (by omega) (by decide)] at h106
        omega
      refine zq_go zt_X7_walk 3 [] (if (zdn cx) = (-1) then 74 else 52) [(0, .ref 33), (1, .int (nI p)), (2, .int (zdn cx)), (3, .int (nI (srt p))), (4, .int (nI (bed p))), (5, .int (nI (stt p))), (6, .int (nI ((zw N (srt p) (stt p) (bed p) hm hc cr ld h).1))), (7, .int (nI a)), (8, .int (nI h))] [] μ rfl trivial ?_
      refine zq_ite (fun h152 => ?_) (fun h152 => ?_)
      · rw [zdn_m1 (by omega)] at h152
        refine zq_go zt_X7_walk 2 [] (if ¬ (nI (srt p)) = 0 then 98 else 78) [(0, .ref 33), (1, .int (nI p)), (2, .int (zdn cx)), (3, .int (nI (srt p))), (4, .int (nI (bed p))), (5, .int (nI (stt p))), (6, .int (nI ((zw N (srt p) (stt p) (bed p) hm hc cr ld h).1))), (7, .int (nI a)), (8, .int (nI h))] [] μ rfl trivial ?_
        refine zq_ite (fun h155 => ?_) (fun h155 => ?_)
        · have h09 : ¬ srt p = 0 := by
            rw [show (0 : Int32) = nI 0 from rfl, zn_eq (by omega) (by decide)] at h155
            exact h155
          have ea : a = zw_aim (srt p) (stt p) (bed p) hm hc cr ld h (zw N (srt p) (stt p) (bed p) hm hc cr ld h).2 := by
            unfold zw_aim
            rw [if_neg h09]
            by_cases h1 : srt p = 1
            · rw [if_pos h1]; exact hJ.1 h1
            · rw [if_neg h1]
              have h2 : srt p = 2 := by omega
              have hcf : hc = false := by rw [hcx]; exact decide_eq_false (fun q => q h152)
              rw [hcf]; exact hJ.2.2 h2 hcf
          rw [ea]; exact key
        · have h09 : srt p = 0 := by
            rw [show (0 : Int32) = nI 0 from rfl, zn_eq (by omega) (by decide)] at h155
            omega
          refine zq_go zt_X7_walk 6 [vp_in (nI h) 24] (if (μ.1 35 ((nI h).toNatClampNeg)) = (-1) then 98 else 89) [(0, .ref 33), (1, .int (nI p)), (2, .int (zdn cx)), (3, .int (nI (srt p))), (4, .int (nI (bed p))), (5, .int (nI (stt p))), (6, .int (nI ((zw N (srt p) (stt p) (bed p) hm hc cr ld h).1))), (7, .int (nI a)), (8, .int (nI h))] [] μ rfl ⟨zn_in (k := h) rfl (by omega) (by decide), trivial⟩ ?_
          rw [zn_cl (n := h) (by omega), (hH h (by omega)).1]
          refine zq_ite (fun h174 => ?_) (fun h174 => ?_)
          · rw [zdn_m1 (by have := (hH h (by omega)).2; omega)] at h174
            have ea : a = zw_aim (srt p) (stt p) (bed p) hm hc cr ld h (zw N (srt p) (stt p) (bed p) hm hc cr ld h).2 := by
              unfold zw_aim
              rw [if_pos h09, if_pos h174]
              exact hJ.2.1 h09 (fun i hi => hm0 h i (by omega) (by omega) h174)
            rw [ea]; exact key
          · rw [zdn_m1 (by have := (hH h (by omega)).2; omega)] at h174
            obtain ⟨r, hr⟩ : ∃ r, hm h = r + 1 := ⟨hm h - 1, by omega⟩
            have ea : zw_aim (srt p) (stt p) (bed p) hm hc cr ld h (zw N (srt p) (stt p) (bed p) hm hc cr ld h).2 = r := by
              unfold zw_aim
              rw [if_pos h09, if_neg h174, hr]
              rfl
            refine zq_go zt_X7_walk 5 [vp_in (nI h) 24] 98 [(0, .ref 33), (1, .int (nI p)), (2, .int (zdn cx)), (3, .int (nI (srt p))), (4, .int (nI (bed p))), (5, .int (nI (stt p))), (6, .int (nI ((zw N (srt p) (stt p) (bed p) hm hc cr ld h).1))), (7, .int (μ.1 35 ((nI h).toNatClampNeg))), (8, .int (nI h))] [] μ rfl ⟨zn_in (k := h) rfl (by omega) (by decide), trivial⟩ ?_
            rw [zn_cl (n := h) (by omega), (hH h (by omega)).1]
            rw [hr]
            rw [ea] at key
            exact key
      · rw [zdn_m1 (by omega)] at h152
        have hct : hc = true := by rw [hcx]; exact decide_eq_true h152
        obtain ⟨c, hce⟩ : ∃ c, cx = c + 1 := ⟨cx - 1, by omega⟩
        have ecx : zdn cx = nI c := by rw [hce]; rfl
        obtain ⟨hc1, hc2, hc3⟩ := hcp c hce
        refine zq_go zt_X7_walk 8 [] 66 [(0, .ref 33), (1, .int (nI p)), (2, .int (zdn cx)), (3, .int (nI (srt p))), (4, .int (nI (bed p))), (5, .int (nI (stt p))), (6, .int (nI ((zw N (srt p) (stt p) (bed p) hm hc cr ld h).1))), (7, .int (nI a)), (8, .int (nI h))] [.int (zdn cx), .int (if (nI 23) < ((nI h) + (μ.1 33 10)) then (nI 23) else ((nI h) + (μ.1 33 10))), .ref 33] μ rfl trivial ?_
        rw [hld, zn_add h ld]
        rw [zn_min (by omega) (by decide), ecx]
        have hm9 : (if h + ld ≤ 23 then h + ld else 23) < 24 := by split <;> omega
        have ea : zw_aim (srt p) (stt p) (bed p) hm hc cr ld h (zw N (srt p) (stt p) (bed p) hm hc cr ld h).2 = cr (if h + ld ≤ 23 then h + ld else 23) := by
          unfold zw_aim
          rw [if_neg (by omega), if_neg (by omega), if_pos hct]
        refine zq_call zt_X7_walk [.ref 33, .int (nI (if h + ld ≤ 23 then h + ld else 23)), .int (nI c)] [] (zs_roomOf33 hm9 hc1 (r := cr (if h + ld ≤ 23 then h + ld else 23)) (by rw [hI.2.2 _ (by omega)]; exact hc3 _ hm9)) rfl rfl ?_
        rintro _ _ ⟨rfl, rfl⟩
        refine zq_go zt_X7_walk 2 [] 98 [(0, .ref 33), (1, .int (nI p)), (2, .int (nI c)), (3, .int (nI (srt p))), (4, .int (nI (bed p))), (5, .int (nI (stt p))), (6, .int (nI ((zw N (srt p) (stt p) (bed p) hm hc cr ld h).1))), (7, .int (nI (cr (if h + ld ≤ 23 then h + ld else 23)))), (8, .int (nI h))] [] μ rfl trivial ?_
        rw [ea, ecx] at key
        exact key
set_option maxRecDepth 100000 in
set_option maxHeartbeats 4000000 in
theorem zs_walk33 {p : Nat} {srt stt bed hm cr tb : Nat → Nat} {N : Nat → Nat → Nat → Nat} {hc : Bool} {ld cx : Nat} {μ0 : zq_Me} {np : Nat} (hP : zP33 np srt stt bed μ0) (hpn : p < np) (hl9 : ld ≤ 9) (hld0 : μ0.1 33 10 = nI ld) (hH0 : ∀ i, i < 24 → μ0.1 35 i = zdn (hm i) ∧ hm i ≤ 8) (hm0 : ∀ h i, i ≤ h → h < 24 → hm h = 0 → hm i = 0) (hT0 : ∀ i, i < 24 → μ0.1 37 i = nI (tb i * 64) ∧ tb i ≤ 8) (hN0 : ∀ i x t, i < 24 → x < 8 → t < 8 → μ0.1 38 (tb i * 64 + x * 8 + t) = nI (N i t x)) (hNl : ∀ h t x, h < 24 → t < 8 → x < 8 → N h t x < 8) (hcr : ∀ h, h < 24 → cr h < 8) (hcx8 : cx ≤ 8) (hcx : hc = decide (¬ cx = 0)) (hcp : ∀ c, cx = c + 1 → c < 8 ∧ c ≠ p ∧ ∀ i, i < 24 → μ0.1 34 (i * 8 + c) = nI (cr i)) : zq_Wp zn_X7_walk 0 [(0, .ref 33), (1, .int (nI p)), (2, .int (zdn cx))] [] μ0 (fun r μ => r = none ∧ (zq_fr [34] μ0 μ ∧ (∀ i, i < 24 → μ.1 34 (i * 8 + p) = nI (zw N (srt p) (stt p) (bed p) hm hc cr ld (i + 1)).1) ∧ ∀ q, q % 8 ≠ p → μ.1 34 q = μ0.1 34 q)) := by
  have hq := hP.2.2 p hpn
  have hp : p < 8 := by have := hP.1; omega
  refine zq_go zt_X7_walk 2 [] 2 [(0, .ref 33), (1, .int (nI p)), (2, .int (zdn cx))] [.int (nI p), .ref 33] μ0 rfl trivial ?_
  refine zq_call zt_X7_walk [.ref 33, .int (nI p)] [] (zs_sortOf33 hP hpn) rfl rfl ?_
  rintro _ _ ⟨rfl, rfl⟩
  refine zq_go zt_X7_walk 3 [] 8 [(0, .ref 33), (1, .int (nI p)), (2, .int (zdn cx)), (3, .int (nI (srt p)))] [.int (nI p), .ref 33] μ0 rfl trivial ?_
  refine zq_call zt_X7_walk [.ref 33, .int (nI p)] [] (zs_bedOf33 hP hpn) rfl rfl ?_
  rintro _ _ ⟨rfl, rfl⟩
  refine zq_go zt_X7_walk 13 [vp_in (nI p) 8] 35 [(0, .ref 33), (1, .int (nI p)), (2, .int (zdn cx)), (3, .int (nI (srt p))), (4, .int (nI (bed p))), (5, .int (μ0.1 9 ((nI p).toNatClampNeg))), (6, .int (μ0.1 9 ((nI p).toNatClampNeg))), (7, .int (nI (bed p))), (8, .int (nI 0))] [] μ0 rfl ⟨zn_in (k := p) rfl (by omega) (by decide), trivial⟩ ?_
  rw [zn_cl (n := p) (by omega), hq.2.2.1]
  refine zs_walk33_h hp hq.2.1 hq.2.2.2.1 hq.2.2.2.2.2 hl9 hld0 hH0 hm0 hT0 hN0 hNl hcr hcx8 hcx hcp (fun μ1 hI => ?_) 24 0 (bed p) μ0 (by omega) hq.2.2.2.2.2 ⟨fun _ => rfl, fun _ _ => rfl, fun _ _ => rfl⟩ ⟨zq_fr.rf, fun i hi => absurd hi (Nat.not_lt_zero i), fun _ _ => rfl⟩
  exact zq_retn zt_X7_walk rfl rfl ⟨rfl, hI⟩
/-- the people as a week sees them -/
def zP40 (np : Nat) (srt stt bed : Nat → Nat) (μ : zq_Me) : Prop := np ≤ 8 ∧ μ.1 6 5 = nI np ∧ ∀ p, p < np → (if nI p = μ.1 40 11 ∧ ¬ μ.1 40 12 = -1 then μ.1 40 12 else μ.1 8 p) = nI (srt p) ∧ srt p ≤ 2 ∧ μ.1 9 p = nI (stt p) ∧ stt p < 8 ∧ (if nI p = μ.1 40 11 ∧ ¬ μ.1 40 13 = -1 then μ.1 40 13 else μ.1 10 p) = nI (bed p) ∧ bed p < 8
theorem zP40.fr {np : Nat} {srt stt bed : Nat → Nat} {μ μ1 : zq_Me} {S : List Nat} (h : zP40 np srt stt bed μ) (hf : zq_fr S μ μ1) (hs : 6 ∉ S ∧ 8 ∉ S ∧ 9 ∉ S ∧ 10 ∉ S ∧ 40 ∉ S) : zP40 np srt stt bed μ1 := by
  obtain ⟨a, b, c⟩ := h
  obtain ⟨s1, s2, s3, s4, s5⟩ := hs
  exact ⟨a, by rw [hf.a s1]; exact b, fun e he => by rw [hf.a s2, hf.a s3, hf.a s4, hf.a s5]; exact c e he⟩
theorem zP40.sl {np : Nat} {srt stt bed : Nat → Nat} {μ μ1 : zq_Me} (h : zP40 np srt stt bed μ) (h6 : μ1.1 6 = μ.1 6) (h8 : μ1.1 8 = μ.1 8) (h9 : μ1.1 9 = μ.1 9) (h10 : μ1.1 10 = μ.1 10) (hw : μ1.1 40 11 = μ.1 40 11 ∧ μ1.1 40 12 = μ.1 40 12 ∧ μ1.1 40 13 = μ.1 40 13) : zP40 np srt stt bed μ1 := by
  obtain ⟨a, b, c⟩ := h
  exact ⟨a, by rw [h6]; exact b, fun e he => by rw [h8, h9, h10, hw.1, hw.2.1, hw.2.2]; exact c e he⟩
set_option maxRecDepth 100000 in
set_option maxHeartbeats 4000000 in
theorem zs_sortOf40 {np : Nat} {srt stt bed : Nat → Nat} {μ : zq_Me} (hP : zP40 np srt stt bed μ) {p : Nat} (hp : p < np) : zq_Wp zn_X7_sortOf 0 [(0, .ref 40), (1, .int (nI p))] [] μ (zq_pi (nI (srt p)) μ) := by
  have e9 := (hP.2.2 p hp).1
  have hnp := hP.1
  refine zq_go zt_X7_sortOf 4 [] (if ¬ (nI p) = (μ.1 40 11) then 23 else 8) [(0, .ref 40), (1, .int (nI p))] [] μ rfl trivial ?_
  refine zq_ite (fun h3 => ?_) (fun h3 => ?_)
  · refine zq_go zt_X7_sortOf 5 [vp_in (nI p) 8] 32 [(0, .ref 40), (1, .int (nI p))] [.int (μ.1 8 ((nI p).toNatClampNeg))] μ rfl ⟨zn_in (k := p) rfl (by have := hP.1; omega) (by decide), trivial⟩ ?_
    rw [zn_cl (n := p) (by omega)]
    rw [if_neg (fun q => h3 q.1)] at e9
    rw [e9]
    exact zq_retn zt_X7_sortOf rfl rfl (⟨rfl, rfl⟩)
  · refine zq_go zt_X7_sortOf 4 [] (if (μ.1 40 12) = (-1) then 23 else 16) [(0, .ref 40), (1, .int (nI p))] [] μ rfl trivial ?_
    refine zq_ite (fun h10 => ?_) (fun h10 => ?_)
    · refine zq_go zt_X7_sortOf 5 [vp_in (nI p) 8] 32 [(0, .ref 40), (1, .int (nI p))] [.int (μ.1 8 ((nI p).toNatClampNeg))] μ rfl ⟨zn_in (k := p) rfl (by have := hP.1; omega) (by decide), trivial⟩ ?_
      rw [zn_cl (n := p) (by omega)]
      rw [if_neg (fun q => q.2 h10)] at e9
      rw [e9]
      exact zq_retn zt_X7_sortOf rfl rfl (⟨rfl, rfl⟩)
    · refine zq_go zt_X7_sortOf 3 [] 32 [(0, .ref 40), (1, .int (nI p))] [.int (μ.1 40 12)] μ rfl trivial ?_
      rw [if_pos ⟨Classical.not_not.mp h3, h10⟩] at e9
      rw [e9]
      exact zq_retn zt_X7_sortOf rfl rfl (⟨rfl, rfl⟩)
set_option maxRecDepth 100000 in
set_option maxHeartbeats 4000000 in
theorem zs_bedOf40 {np : Nat} {srt stt bed : Nat → Nat} {μ : zq_Me} (hP : zP40 np srt stt bed μ) {p : Nat} (hp : p < np) : zq_Wp zn_X7_bedOf 0 [(0, .ref 40), (1, .int (nI p))] [] μ (zq_pi (nI (bed p)) μ) := by
  have e9 := (hP.2.2 p hp).2.2.2.2.1
  have hnp := hP.1
  refine zq_go zt_X7_bedOf 4 [] (if ¬ (nI p) = (μ.1 40 11) then 23 else 8) [(0, .ref 40), (1, .int (nI p))] [] μ rfl trivial ?_
  refine zq_ite (fun h3 => ?_) (fun h3 => ?_)
  · refine zq_go zt_X7_bedOf 5 [vp_in (nI p) 8] 32 [(0, .ref 40), (1, .int (nI p))] [.int (μ.1 10 ((nI p).toNatClampNeg))] μ rfl ⟨zn_in (k := p) rfl (by have := hP.1; omega) (by decide), trivial⟩ ?_
    rw [zn_cl (n := p) (by omega)]
    rw [if_neg (fun q => h3 q.1)] at e9
    rw [e9]
    exact zq_retn zt_X7_bedOf rfl rfl (⟨rfl, rfl⟩)
  · refine zq_go zt_X7_bedOf 4 [] (if (μ.1 40 13) = (-1) then 23 else 16) [(0, .ref 40), (1, .int (nI p))] [] μ rfl trivial ?_
    refine zq_ite (fun h10 => ?_) (fun h10 => ?_)
    · refine zq_go zt_X7_bedOf 5 [vp_in (nI p) 8] 32 [(0, .ref 40), (1, .int (nI p))] [.int (μ.1 10 ((nI p).toNatClampNeg))] μ rfl ⟨zn_in (k := p) rfl (by have := hP.1; omega) (by decide), trivial⟩ ?_
      rw [zn_cl (n := p) (by omega)]
      rw [if_neg (fun q => q.2 h10)] at e9
      rw [e9]
      exact zq_retn zt_X7_bedOf rfl rfl (⟨rfl, rfl⟩)
    · refine zq_go zt_X7_bedOf 3 [] 32 [(0, .ref 40), (1, .int (nI p))] [.int (μ.1 40 13)] μ rfl trivial ?_
      rw [if_pos ⟨Classical.not_not.mp h3, h10⟩] at e9
      rw [e9]
      exact zq_retn zt_X7_bedOf rfl rfl (⟨rfl, rfl⟩)
set_option maxRecDepth 100000 in
set_option maxHeartbeats 4000000 in
theorem zs_roomOf40 {μ : zq_Me} {h p r : Nat} (hh : h < 24) (hp : p < 8) (hr0 : μ.1 41 (h * 8 + p) = nI r) : zq_Wp zn_X7_roomOf 0 [(0, .ref 40), (1, .int (nI h)), (2, .int (nI p))] [] μ (zq_pi (nI r) μ) := by
  have hr : μ.1 41 ((h * 8) + p) = nI r := hr0
  refine zq_go zt_X7_roomOf 8 [vp_in (((nI h) * (nI 8)) + (nI p)) 192] 11 [(0, .ref 40), (1, .int (nI h)), (2, .int (nI p))] [.int (μ.1 41 ((((nI h) * (nI 8)) + (nI p)).toNatClampNeg))] μ rfl ⟨zn_in (k := (h * 8) + p) (by rw [zn_mul h 8, zn_add (h * 8) p]) (by omega) (by decide), trivial⟩ ?_
  rw [zn_mul h 8, zn_add (h * 8) p, zn_cl (n := (h * 8) + p) (by omega), hr]
  exact zq_retn zt_X7_roomOf rfl rfl (⟨rfl, rfl⟩)
set_option maxRecDepth 100000 in
set_option maxHeartbeats 4000000 in
theorem zs_walk40_h {Q : zq_Post} {p : Nat} (hp : p < 8) {srt stt bed hm cr tb : Nat → Nat} {N : Nat → Nat → Nat → Nat} {hc : Bool} {ld cx : Nat} {μ0 : zq_Me} (hs2 : srt p ≤ 2) (hst : stt p < 8) (hbd : bed p < 8) (hl9 : ld ≤ 9) (hld0 : μ0.1 40 10 = nI ld) (hH0 : ∀ i, i < 24 → μ0.1 42 i = zdn (hm i) ∧ hm i ≤ 8) (hm0 : ∀ h i, i ≤ h → h < 24 → hm h = 0 → hm i = 0) (hT0 : ∀ i, i < 24 → μ0.1 44 i = nI (tb i * 64) ∧ tb i ≤ 8) (hN0 : ∀ i x t, i < 24 → x < 8 → t < 8 → μ0.1 45 (tb i * 64 + x * 8 + t) = nI (N i t x)) (hNl : ∀ h t x, h < 24 → t < 8 → x < 8 → N h t x < 8) (hcr : ∀ h, h < 24 → cr h < 8) (hcx8 : cx ≤ 8) (hcx : hc = decide (¬ cx = 0)) (hcp : ∀ c, cx = c + 1 → c < 8 ∧ c ≠ p ∧ ∀ i, i < 24 → μ0.1 41 (i * 8 + c) = nI (cr i)) (kk : ∀ μ : zq_Me, (zq_fr [41] μ0 μ ∧ (∀ i, i < 24 → μ.1 41 (i * 8 + p) = nI (zw N (srt p) (stt p) (bed p) hm hc cr ld (i + 1)).1) ∧ ∀ q, q % 8 ≠ p → μ.1 41 q = μ0.1 41 q) → zq_Wp zn_X7_walk 169 [] [] μ Q) : ∀ (j h a : Nat) (μ : zq_Me), h + j = 24 → a < 8 → ((srt p = 1 → a = if (zw N (srt p) (stt p) (bed p) hm hc cr ld h).2 = true then bed p else stt p) ∧ (srt p = 0 → (∀ i, i < h → hm i = 0) → a = bed p) ∧ (srt p = 2 → hc = false → a = bed p)) → (zq_fr [41] μ0 μ ∧ (∀ i, i < h → μ.1 41 (i * 8 + p) = nI (zw N (srt p) (stt p) (bed p) hm hc cr ld (i + 1)).1) ∧ ∀ q, q % 8 ≠ p → μ.1 41 q = μ0.1 41 q) → zq_Wp zn_X7_walk 35 [(0, .ref 40), (1, .int (nI p)), (2, .int (zdn cx)), (3, .int (nI (srt p))), (4, .int (nI (bed p))), (5, .int (nI (stt p))), (6, .int (nI ((zw N (srt p) (stt p) (bed p) hm hc cr ld h).1))), (7, .int (nI a)), (8, .int (nI h))] [] μ Q := by
  intro j
  induction j with
  | zero =>
    intro h a μ hij ha hJ hI
    obtain rfl : h = 24 := by omega
    refine zq_go zt_X7_walk 3 [] (if (nI 24) ≤ (nI 24) then 169 else 42) [(0, .ref 40), (1, .int (nI p)), (2, .int (zdn cx)), (3, .int (nI (srt p))), (4, .int (nI (bed p))), (5, .int (nI (stt p))), (6, .int (nI ((zw N (srt p) (stt p) (bed p) hm hc cr ld 24).1))), (7, .int (nI a)), (8, .int (nI 24))] [] μ rfl trivial ?_
    rw [if_pos (by decide)]
    exact zq_drp [] [] rfl (kk μ hI)
  | succ j ih =>
    intro h a μ hij ha hJ hI
    have hld : μ.1 40 10 = nI ld := by rw [hI.1.a (b := 40) (by decide)]; exact hld0
    have hH : ∀ i, i < 24 → μ.1 42 i = zdn (hm i) ∧ hm i ≤ 8 := fun i hi => by rw [hI.1.a (b := 42) (by decide)]; exact hH0 i hi
    have hT : ∀ i, i < 24 → μ.1 44 i = nI (tb i * 64) ∧ tb i ≤ 8 := fun i hi => by rw [hI.1.a (b := 44) (by decide)]; exact hT0 i hi
    have hN : ∀ i x t, i < 24 → x < 8 → t < 8 → μ.1 45 (tb i * 64 + x * 8 + t) = nI (N i t x) := fun i x t hi hx ht => by rw [hI.1.a (b := 45) (by decide)]; exact hN0 i x t hi hx ht
    have hzl := zw_lt (sort := srt p) (hc := hc) (cr := cr) (ld := ld) hNl hst hbd (fun i hi => (hH0 i hi).2) hcr h (by omega)
    have hz1 := hzl.1
    have hz2 := hzl.2 (zw N (srt p) (stt p) (bed p) hm hc cr ld h).2 (by omega)
    have htb := (hT h (by omega)).2
    have key : zq_Wp zn_X7_walk 98 [(0, .ref 40), (1, .int (nI p)), (2, .int (zdn cx)), (3, .int (nI (srt p))), (4, .int (nI (bed p))), (5, .int (nI (stt p))), (6, .int (nI ((zw N (srt p) (stt p) (bed p) hm hc cr ld h).1))), (7, .int (nI (zw_aim (srt p) (stt p) (bed p) hm hc cr ld h (zw N (srt p) (stt p) (bed p) hm hc cr ld h).2))), (8, .int (nI h))] [] μ Q := by
      have hz3 : N h (zw_aim (srt p) (stt p) (bed p) hm hc cr ld h (zw N (srt p) (stt p) (bed p) hm hc cr ld h).2) (zw N (srt p) (stt p) (bed p) hm hc cr ld h).1 < 8 := hNl h _ _ (by omega) hz2 hz1
      have e1 : N h (zw_aim (srt p) (stt p) (bed p) hm hc cr ld h (zw N (srt p) (stt p) (bed p) hm hc cr ld h).2) (zw N (srt p) (stt p) (bed p) hm hc cr ld h).1 = (zw N (srt p) (stt p) (bed p) hm hc cr ld (h + 1)).1 := rfl
      rw [e1] at hz3
      have hn9 : μ.1 45 (((tb h * 64) + (((zw N (srt p) (stt p) (bed p) hm hc cr ld h).1) * 8)) + (zw_aim (srt p) (stt p) (bed p) hm hc cr ld h (zw N (srt p) (stt p) (bed p) hm hc cr ld h).2)) = nI (zw N (srt p) (stt p) (bed p) hm hc cr ld (h + 1)).1 := hN h _ _ (by omega) hz1 hz2
      refine zq_go zt_X7_walk 12 [vp_in (nI h) 24] 118 [(0, .ref 40), (1, .int (nI p)), (2, .int (zdn cx)), (3, .int (nI (srt p))), (4, .int (nI (bed p))), (5, .int (nI (stt p))), (6, .int (nI ((zw N (srt p) (stt p) (bed p) hm hc cr ld h).1))), (7, .int (nI (zw_aim (srt p) (stt p) (bed p) hm hc cr ld h (zw N (srt p) (stt p) (bed p) hm hc cr ld h).2))), (8, .int (nI h))] [.int (((μ.1 44 ((nI h).toNatClampNeg)) + ((nI ((zw N (srt p) (stt p) (bed p) hm hc cr ld h).1)) * (nI 8))) + (nI (zw_aim (srt p) (stt p) (bed p) hm hc cr ld h (zw N (srt p) (stt p) (bed p) hm hc cr ld h).2))), .ref 45] μ rfl ⟨zn_in (k := h) rfl (by omega) (by decide), trivial⟩ ?_
      rw [zn_cl (n := h) (by omega), (hT h (by omega)).1, zn_mul ((zw N (srt p) (stt p) (bed p) hm hc cr ld h).1) 8, zn_add (tb h * 64) (((zw N (srt p) (stt p) (bed p) hm hc cr ld h).1) * 8), zn_add ((tb h * 64) + (((zw N (srt p) (stt p) (bed p) hm hc cr ld h).1) * 8)) (zw_aim (srt p) (stt p) (bed p) hm hc cr ld h (zw N (srt p) (stt p) (bed p) hm hc cr ld h).2)]
      refine zq_go zt_X7_walk 14 [vp_in (nI (((tb h * 64) + (((zw N (srt p) (stt p) (bed p) hm hc cr ld h).1) * 8)) + (zw_aim (srt p) (stt p) (bed p) hm hc cr ld h (zw N (srt p) (stt p) (bed p) hm hc cr ld h).2))) 576, vp_in (((nI h) * (nI 8)) + (nI p)) 192] (if ¬ (nI (srt p)) = (nI 1) then 163 else 140) [(0, .ref 40), (1, .int (nI p)), (2, .int (zdn cx)), (3, .int (nI (srt p))), (4, .int (nI (bed p))), (5, .int (nI (stt p))), (6, .int (μ.1 45 ((nI (((tb h * 64) + (((zw N (srt p) (stt p) (bed p) hm hc cr ld h).1) * 8)) + (zw_aim (srt p) (stt p) (bed p) hm hc cr ld h (zw N (srt p) (stt p) (bed p) hm hc cr ld h).2))).toNatClampNeg))), (7, .int (nI (zw_aim (srt p) (stt p) (bed p) hm hc cr ld h (zw N (srt p) (stt p) (bed p) hm hc cr ld h).2))), (8, .int (nI h))] [] (zq_u1 μ 41 ((((nI h) * (nI 8)) + (nI p)).toNatClampNeg) (μ.1 45 ((nI (((tb h * 64) + (((zw N (srt p) (stt p) (bed p) hm hc cr ld h).1) * 8)) + (zw_aim (srt p) (stt p) (bed p) hm hc cr ld h (zw N (srt p) (stt p) (bed p) hm hc cr ld h).2))).toNatClampNeg))) rfl ⟨zn_in (k := ((tb h * 64) + (((zw N (srt p) (stt p) (bed p) hm hc cr ld h).1) * 8)) + (zw_aim (srt p) (stt p) (bed p) hm hc cr ld h (zw N (srt p) (stt p) (bed p) hm hc cr ld h).2)) rfl (by omega) (by decide), ⟨zn_in (k := (h * 8) + p) (by rw [zn_mul h 8, zn_add (h * 8) p]) (by omega) (by decide), trivial⟩⟩ ?_
      rw [zn_cl (n := ((tb h * 64) + (((zw N (srt p) (stt p) (bed p) hm hc cr ld h).1) * 8)) + (zw_aim (srt p) (stt p) (bed p) hm hc cr ld h (zw N (srt p) (stt p) (bed p) hm hc cr ld h).2)) (by omega), hn9, zn_mul h 8, zn_add (h * 8) p, zn_cl (n := (h * 8) + p) (by omega)]
      refine zq_ite (fun h27 => ?_) (fun h27 => ?_)
      · have hs9 : ¬ srt p = 1 := by
          rw [zn_eq (by omega) (by decide)] at h27
          exact h27
        refine zq_go zt_X7_walk 2 [] 35 [(0, .ref 40), (1, .int (nI p)), (2, .int (zdn cx)), (3, .int (nI (srt p))), (4, .int (nI (bed p))), (5, .int (nI (stt p))), (6, .int (nI ((zw N (srt p) (stt p) (bed p) hm hc cr ld (h + 1)).1))), (7, .int (nI (zw_aim (srt p) (stt p) (bed p) hm hc cr ld h (zw N (srt p) (stt p) (bed p) hm hc cr ld h).2))), (8, .int ((nI h) + (nI 1)))] [] (zq_u1 μ 41 ((h * 8) + p) (nI ((zw N (srt p) (stt p) (bed p) hm hc cr ld (h + 1)).1))) rfl trivial ?_
        rw [zn_add h 1]
        refine ih (h + 1) _ _ (by omega) hz2 ⟨fun q => absurd q hs9, fun q hq => ?_, fun q hq => ?_⟩ ⟨hI.1.u1 (by simp), fun i hi => ?_, fun q hq => ?_⟩
        · unfold zw_aim
          rw [if_pos q, if_pos (hq h (by omega))]
        · unfold zw_aim
          rw [if_neg (by omega), if_neg hs9, hq]
          rfl
        · rw [zq_u1_rd]
          by_cases h8 : i = h
          · subst h8; rw [if_pos rfl]
          · rw [if_neg (by omega)]; exact hI.2.1 i (by omega)
        · rw [zq_u1_o2 (by omega)]; exact hI.2.2 q hq
      · have hs9 : srt p = 1 := by
          rw [zn_eq (by omega) (by decide)] at h27
          omega
        have ea : zw_aim (srt p) (stt p) (bed p) hm hc cr ld h (zw N (srt p) (stt p) (bed p) hm hc cr ld h).2 = if (zw N (srt p) (stt p) (bed p) hm hc cr ld h).2 = true then bed p else stt p := by
          unfold zw_aim
          rw [if_neg (by omega), if_pos hs9]
        refine zq_go zt_X7_walk 3 [] (if ¬ (nI ((zw N (srt p) (stt p) (bed p) hm hc cr ld (h + 1)).1)) = (nI (zw_aim (srt p) (stt p) (bed p) hm hc cr ld h (zw N (srt p) (stt p) (bed p) hm hc cr ld h).2)) then 163 else 147) [(0, .ref 40), (1, .int (nI p)), (2, .int (zdn cx)), (3, .int (nI (srt p))), (4, .int (nI (bed p))), (5, .int (nI (stt p))), (6, .int (nI ((zw N (srt p) (stt p) (bed p) hm hc cr ld (h + 1)).1))), (7, .int (nI (zw_aim (srt p) (stt p) (bed p) hm hc cr ld h (zw N (srt p) (stt p) (bed p) hm hc cr ld h).2))), (8, .int (nI h))] [] (zq_u1 μ 41 ((h * 8) + p) (nI ((zw N (srt p) (stt p) (bed p) hm hc cr ld (h + 1)).1))) rfl trivial ?_
        refine zq_ite (fun h51 => ?_) (fun h51 => ?_)
        · have hne : ¬ (zw N (srt p) (stt p) (bed p) hm hc cr ld (h + 1)).1 = zw_aim (srt p) (stt p) (bed p) hm hc cr ld h (zw N (srt p) (stt p) (bed p) hm hc cr ld h).2 := by
            rw [zn_eq (by omega) (by omega)] at h51
            exact h51
          have et : (zw N (srt p) (stt p) (bed p) hm hc cr ld (h + 1)).2 = (zw N (srt p) (stt p) (bed p) hm hc cr ld h).2 := if_neg hne
          refine zq_go zt_X7_walk 2 [] 35 [(0, .ref 40), (1, .int (nI p)), (2, .int (zdn cx)), (3, .int (nI (srt p))), (4, .int (nI (bed p))), (5, .int (nI (stt p))), (6, .int (nI ((zw N (srt p) (stt p) (bed p) hm hc cr ld (h + 1)).1))), (7, .int (nI (zw_aim (srt p) (stt p) (bed p) hm hc cr ld h (zw N (srt p) (stt p) (bed p) hm hc cr ld h).2))), (8, .int ((nI h) + (nI 1)))] [] (zq_u1 μ 41 ((h * 8) + p) (nI ((zw N (srt p) (stt p) (bed p) hm hc cr ld (h + 1)).1))) rfl trivial ?_
          rw [zn_add h 1]
          refine ih (h + 1) _ _ (by omega) hz2 ⟨fun q => by rw [et]; exact ea, fun q _ => by omega, fun q _ => by omega⟩ ⟨hI.1.u1 (by simp), fun i hi => ?_, fun q hq => ?_⟩
          · rw [zq_u1_rd]
            by_cases h8 : i = h
            · subst h8; rw [if_pos rfl]
            · rw [if_neg (by omega)]; exact hI.2.1 i (by omega)
          · rw [zq_u1_o2 (by omega)]; exact hI.2.2 q hq
        · have hne : (zw N (srt p) (stt p) (bed p) hm hc cr ld (h + 1)).1 = zw_aim (srt p) (stt p) (bed p) hm hc cr ld h (zw N (srt p) (stt p) (bed p) hm hc cr ld h).2 := by
            rw [zn_eq (by omega) (by omega)] at h51
            omega
          have et : (zw N (srt p) (stt p) (bed p) hm hc cr ld (h + 1)).2 = !(zw N (srt p) (stt p) (bed p) hm hc cr ld h).2 := if_pos hne
          refine zq_go zt_X7_walk 3 [] (if ¬ (nI (zw_aim (srt p) (stt p) (bed p) hm hc cr ld h (zw N (srt p) (stt p) (bed p) hm hc cr ld h).2)) = (nI (bed p)) then 159 else 154) [(0, .ref 40), (1, .int (nI p)), (2, .int (zdn cx)), (3, .int (nI (srt p))), (4, .int (nI (bed p))), (5, .int (nI (stt p))), (6, .int (nI ((zw N (srt p) (stt p) (bed p) hm hc cr ld (h + 1)).1))), (7, .int (nI (zw_aim (srt p) (stt p) (bed p) hm hc cr ld h (zw N (srt p) (stt p) (bed p) hm hc cr ld h).2))), (8, .int (nI h))] [] (zq_u1 μ 41 ((h * 8) + p) (nI ((zw N (srt p) (stt p) (bed p) hm hc cr ld (h + 1)).1))) rfl trivial ?_
          refine zq_ite (fun h69 => ?_) (fun h69 => ?_)
          · have hb9 : ¬ zw_aim (srt p) (stt p) (bed p) hm hc cr ld h (zw N (srt p) (stt p) (bed p) hm hc cr ld h).2 = bed p := by
              rw [zn_eq (by omega) (by omega)] at h69
              exact h69
            refine zq_go zt_X7_walk 4 [] 35 [(0, .ref 40), (1, .int (nI p)), (2, .int (zdn cx)), (3, .int (nI (srt p))), (4, .int (nI (bed p))), (5, .int (nI (stt p))), (6, .int (nI ((zw N (srt p) (stt p) (bed p) hm hc cr ld (h + 1)).1))), (7, .int (nI (bed p))), (8, .int ((nI h) + (nI 1)))] [] (zq_u1 μ 41 ((h * 8) + p) (nI ((zw N (srt p) (stt p) (bed p) hm hc cr ld (h + 1)).1))) rfl trivial ?_
            rw [zn_add h 1]
            refine ih (h + 1) _ _ (by omega) hbd ⟨fun q => ?_, fun q _ => by omega, fun q _ => by omega⟩ ⟨hI.1.u1 (by simp), fun i hi => ?_, fun q hq => ?_⟩
            · rw [et]
              cases htb9 : (zw N (srt p) (stt p) (bed p) hm hc cr ld h).2 with
              | true => exact absurd (ea.trans (by rw [htb9]; rfl)) hb9
              | false => rfl
            · rw [zq_u1_rd]
              by_cases h8 : i = h
              · subst h8; rw [if_pos rfl]
              · rw [if_neg (by omega)]; exact hI.2.1 i (by omega)
            · rw [zq_u1_o2 (by omega)]; exact hI.2.2 q hq
          · have hb9 : zw_aim (srt p) (stt p) (bed p) hm hc cr ld h (zw N (srt p) (stt p) (bed p) hm hc cr ld h).2 = bed p := by
              rw [zn_eq (by omega) (by omega)] at h69
              omega
            refine zq_go zt_X7_walk 2 [] 161 [(0, .ref 40), (1, .int (nI p)), (2, .int (zdn cx)), (3, .int (nI (srt p))), (4, .int (nI (bed p))), (5, .int (nI (stt p))), (6, .int (nI ((zw N (srt p) (stt p) (bed p) hm hc cr ld (h + 1)).1))), (7, .int (nI (zw_aim (srt p) (stt p) (bed p) hm hc cr ld h (zw N (srt p) (stt p) (bed p) hm hc cr ld h).2))), (8, .int (nI h))] [.int (nI (stt p))] (zq_u1 μ 41 ((h * 8) + p) (nI ((zw N (srt p) (stt p) (bed p) hm hc cr ld (h + 1)).1))) rfl trivial ?_
            refine zq_go zt_X7_walk 3 [] 35 [(0, .ref 40), (1, .int (nI p)), (2, .int (zdn cx)), (3, .int (nI (srt p))), (4, .int (nI (bed p))), (5, .int (nI (stt p))), (6, .int (nI ((zw N (srt p) (stt p) (bed p) hm hc cr ld (h + 1)).1))), (7, .int (nI (stt p))), (8, .int ((nI h) + (nI 1)))] [] (zq_u1 μ 41 ((h * 8) + p) (nI ((zw N (srt p) (stt p) (bed p) hm hc cr ld (h + 1)).1))) rfl trivial ?_
            rw [zn_add h 1]
            refine ih (h + 1) _ _ (by omega) hst ⟨fun q => ?_, fun q _ => by omega, fun q _ => by omega⟩ ⟨hI.1.u1 (by simp), fun i hi => ?_, fun q hq => ?_⟩
            · rw [et]
              cases htb9 : (zw N (srt p) (stt p) (bed p) hm hc cr ld h).2 with
              | true => rfl
              | false =>
                have ea9 : zw_aim (srt p) (stt p) (bed p) hm hc cr ld h (zw N (srt p) (stt p) (bed p) hm hc cr ld h).2 = stt p := ea.trans (by rw [htb9]; rfl)
                exact ea9.symm.trans hb9
            · rw [zq_u1_rd]
              by_cases h8 : i = h
              · subst h8; rw [if_pos rfl]
              · rw [if_neg (by omega)]; exact hI.2.1 i (by omega)
            · rw [zq_u1_o2 (by omega)]; exact hI.2.2 q hq
    refine zq_go zt_X7_walk 3 [] (if (nI 24) ≤ (nI h) then 169 else 42) [(0, .ref 40), (1, .int (nI p)), (2, .int (zdn cx)), (3, .int (nI (srt p))), (4, .int (nI (bed p))), (5, .int (nI (stt p))), (6, .int (nI ((zw N (srt p) (stt p) (bed p) hm hc cr ld h).1))), (7, .int (nI a)), (8, .int (nI h))] [] μ rfl trivial ?_
    rw [if_neg (by rw [zn_le (by omega) (by omega)]; omega)]
    refine zq_go zt_X7_walk 3 [] (if ¬ (nI (srt p)) = (nI 2) then 74 else 47) [(0, .ref 40), (1, .int (nI p)), (2, .int (zdn cx)), (3, .int (nI (srt p))), (4, .int (nI (bed p))), (5, .int (nI (stt p))), (6, .int (nI ((zw N (srt p) (stt p) (bed p) hm hc cr ld h).1))), (7, .int (nI a)), (8, .int (nI h))] [] μ rfl trivial ?_
    refine zq_ite (fun h106 => ?_) (fun h106 => ?_)
    · have h29 : ¬ srt p = 2 := by
        rw [zn_eq (by omega) (by decide)] at h106
        exact h106
      refine zq_go zt_X7_walk 2 [] (if ¬ (nI (srt p)) = 0 then 98 else 78) [(0, .ref 40), (1, .int (nI p)), (2, .int (zdn cx)), (3, .int (nI (srt p))), (4, .int (nI (bed p))), (5, .int (nI (stt p))), (6, .int (nI ((zw N (srt p) (stt p) (bed p) hm hc cr ld h).1))), (7, .int (nI a)), (8, .int (nI h))] [] μ rfl trivial ?_
      refine zq_ite (fun h111 => ?_) (fun h111 => ?_)
      · have h09 : ¬ srt p = 0 := by
          rw [show (0 : Int32) = nI 0 from rfl, zn_eq (by omega) (by decide)] at h111
          exact h111
        have ea : a = zw_aim (srt p) (stt p) (bed p) hm hc cr ld h (zw N (srt p) (stt p) (bed p) hm hc cr ld h).2 := by
          unfold zw_aim
          rw [if_neg h09]
          by_cases h1 : srt p = 1
          · rw [if_pos h1]; exact hJ.1 h1
          · rw [if_neg h1]
            have h2 : srt p = 2 := by omega
            have hcf : hc = false := absurd h2 h29
            rw [hcf]; exact hJ.2.2 h2 hcf
        rw [ea]; exact key
      · have h09 : srt p = 0 := by
          rw [show (0 : Int32) = nI 0 from rfl, zn_eq (by omega) (by decide)] at h111
          omega
        refine zq_go zt_X7_walk 6 [vp_in (nI h) 24] (if (μ.1 42 ((nI h).toNatClampNeg)) = (-1) then 98 else 89) [(0, .ref 40), (1, .int (nI p)), (2, .int (zdn cx)), (3, .int (nI (srt p))), (4, .int (nI (bed p))), (5, .int (nI (stt p))), (6, .int (nI ((zw N (srt p) (stt p) (bed p) hm hc cr ld h).1))), (7, .int (nI a)), (8, .int (nI h))] [] μ rfl ⟨zn_in (k := h) rfl (by omega) (by decide), trivial⟩ ?_
        rw [zn_cl (n := h) (by omega), (hH h (by omega)).1]
        refine zq_ite (fun h130 => ?_) (fun h130 => ?_)
        · rw [zdn_m1 (by have := (hH h (by omega)).2; omega)] at h130
          have ea : a = zw_aim (srt p) (stt p) (bed p) hm hc cr ld h (zw N (srt p) (stt p) (bed p) hm hc cr ld h).2 := by
            unfold zw_aim
            rw [if_pos h09, if_pos h130]
            exact hJ.2.1 h09 (fun i hi => hm0 h i (by omega) (by omega) h130)
          rw [ea]; exact key
        · rw [zdn_m1 (by have := (hH h (by omega)).2; omega)] at h130
          obtain ⟨r, hr⟩ : ∃ r, hm h = r + 1 := ⟨hm h - 1, by omega⟩
          have ea : zw_aim (srt p) (stt p) (bed p) hm hc cr ld h (zw N (srt p) (stt p) (bed p) hm hc cr ld h).2 = r := by
            unfold zw_aim
            rw [if_pos h09, if_neg h130, hr]
            rfl
          refine zq_go zt_X7_walk 5 [vp_in (nI h) 24] 98 [(0, .ref 40), (1, .int (nI p)), (2, .int (zdn cx)), (3, .int (nI (srt p))), (4, .int (nI (bed p))), (5, .int (nI (stt p))), (6, .int (nI ((zw N (srt p) (stt p) (bed p) hm hc cr ld h).1))), (7, .int (μ.1 42 ((nI h).toNatClampNeg))), (8, .int (nI h))] [] μ rfl ⟨zn_in (k := h) rfl (by omega) (by decide), trivial⟩ ?_
          rw [zn_cl (n := h) (by omega), (hH h (by omega)).1]
          rw [hr]
          rw [ea] at key
          exact key
    · have h29 : srt p = 2 := by
        rw [zn_eq (by omega) (by decide)] at h106
        omega
      refine zq_go zt_X7_walk 3 [] (if (zdn cx) = (-1) then 74 else 52) [(0, .ref 40), (1, .int (nI p)), (2, .int (zdn cx)), (3, .int (nI (srt p))), (4, .int (nI (bed p))), (5, .int (nI (stt p))), (6, .int (nI ((zw N (srt p) (stt p) (bed p) hm hc cr ld h).1))), (7, .int (nI a)), (8, .int (nI h))] [] μ rfl trivial ?_
      refine zq_ite (fun h152 => ?_) (fun h152 => ?_)
      · rw [zdn_m1 (by omega)] at h152
        refine zq_go zt_X7_walk 2 [] (if ¬ (nI (srt p)) = 0 then 98 else 78) [(0, .ref 40), (1, .int (nI p)), (2, .int (zdn cx)), (3, .int (nI (srt p))), (4, .int (nI (bed p))), (5, .int (nI (stt p))), (6, .int (nI ((zw N (srt p) (stt p) (bed p) hm hc cr ld h).1))), (7, .int (nI a)), (8, .int (nI h))] [] μ rfl trivial ?_
        refine zq_ite (fun h155 => ?_) (fun h155 => ?_)
        · have h09 : ¬ srt p = 0 := by
            rw [show (0 : Int32) = nI 0 from rfl, zn_eq (by omega) (by decide)] at h155
            exact h155
          have ea : a = zw_aim (srt p) (stt p) (bed p) hm hc cr ld h (zw N (srt p) (stt p) (bed p) hm hc cr ld h).2 := by
            unfold zw_aim
            rw [if_neg h09]
            by_cases h1 : srt p = 1
            · rw [if_pos h1]; exact hJ.1 h1
            · rw [if_neg h1]
              have h2 : srt p = 2 := by omega
              have hcf : hc = false := by rw [hcx]; exact decide_eq_false (fun q => q h152)
              rw [hcf]; exact hJ.2.2 h2 hcf
          rw [ea]; exact key
        · have h09 : srt p = 0 := by
            rw [show (0 : Int32) = nI 0 from rfl, zn_eq (by omega) (by decide)] at h155
            omega
          refine zq_go zt_X7_walk 6 [vp_in (nI h) 24] (if (μ.1 42 ((nI h).toNatClampNeg)) = (-1) then 98 else 89) [(0, .ref 40), (1, .int (nI p)), (2, .int (zdn cx)), (3, .int (nI (srt p))), (4, .int (nI (bed p))), (5, .int (nI (stt p))), (6, .int (nI ((zw N (srt p) (stt p) (bed p) hm hc cr ld h).1))), (7, .int (nI a)), (8, .int (nI h))] [] μ rfl ⟨zn_in (k := h) rfl (by omega) (by decide), trivial⟩ ?_
          rw [zn_cl (n := h) (by omega), (hH h (by omega)).1]
          refine zq_ite (fun h174 => ?_) (fun h174 => ?_)
          · rw [zdn_m1 (by have := (hH h (by omega)).2; omega)] at h174
            have ea : a = zw_aim (srt p) (stt p) (bed p) hm hc cr ld h (zw N (srt p) (stt p) (bed p) hm hc cr ld h).2 := by
              unfold zw_aim
              rw [if_pos h09, if_pos h174]
              exact hJ.2.1 h09 (fun i hi => hm0 h i (by omega) (by omega) h174)
            rw [ea]; exact key
          · rw [zdn_m1 (by have := (hH h (by omega)).2; omega)] at h174
            obtain ⟨r, hr⟩ : ∃ r, hm h = r + 1 := ⟨hm h - 1, by omega⟩
            have ea : zw_aim (srt p) (stt p) (bed p) hm hc cr ld h (zw N (srt p) (stt p) (bed p) hm hc cr ld h).2 = r := by
              unfold zw_aim
              rw [if_pos h09, if_neg h174, hr]
              rfl
            refine zq_go zt_X7_walk 5 [vp_in (nI h) 24] 98 [(0, .ref 40), (1, .int (nI p)), (2, .int (zdn cx)), (3, .int (nI (srt p))), (4, .int (nI (bed p))), (5, .int (nI (stt p))), (6, .int (nI ((zw N (srt p) (stt p) (bed p) hm hc cr ld h).1))), (7, .int (μ.1 42 ((nI h).toNatClampNeg))), (8, .int (nI h))] [] μ rfl ⟨zn_in (k := h) rfl (by omega) (by decide), trivial⟩ ?_
            rw [zn_cl (n := h) (by omega), (hH h (by omega)).1]
            rw [hr]
            rw [ea] at key
            exact key
      · rw [zdn_m1 (by omega)] at h152
        have hct : hc = true := by rw [hcx]; exact decide_eq_true h152
        obtain ⟨c, hce⟩ : ∃ c, cx = c + 1 := ⟨cx - 1, by omega⟩
        have ecx : zdn cx = nI c := by rw [hce]; rfl
        obtain ⟨hc1, hc2, hc3⟩ := hcp c hce
        refine zq_go zt_X7_walk 8 [] 66 [(0, .ref 40), (1, .int (nI p)), (2, .int (zdn cx)), (3, .int (nI (srt p))), (4, .int (nI (bed p))), (5, .int (nI (stt p))), (6, .int (nI ((zw N (srt p) (stt p) (bed p) hm hc cr ld h).1))), (7, .int (nI a)), (8, .int (nI h))] [.int (zdn cx), .int (if (nI 23) < ((nI h) + (μ.1 40 10)) then (nI 23) else ((nI h) + (μ.1 40 10))), .ref 40] μ rfl trivial ?_
        rw [hld, zn_add h ld]
        rw [zn_min (by omega) (by decide), ecx]
        have hm9 : (if h + ld ≤ 23 then h + ld else 23) < 24 := by split <;> omega
        have ea : zw_aim (srt p) (stt p) (bed p) hm hc cr ld h (zw N (srt p) (stt p) (bed p) hm hc cr ld h).2 = cr (if h + ld ≤ 23 then h + ld else 23) := by
          unfold zw_aim
          rw [if_neg (by omega), if_neg (by omega), if_pos hct]
        refine zq_call zt_X7_walk [.ref 40, .int (nI (if h + ld ≤ 23 then h + ld else 23)), .int (nI c)] [] (zs_roomOf40 hm9 hc1 (r := cr (if h + ld ≤ 23 then h + ld else 23)) (by rw [hI.2.2 _ (by omega)]; exact hc3 _ hm9)) rfl rfl ?_
        rintro _ _ ⟨rfl, rfl⟩
        refine zq_go zt_X7_walk 2 [] 98 [(0, .ref 40), (1, .int (nI p)), (2, .int (nI c)), (3, .int (nI (srt p))), (4, .int (nI (bed p))), (5, .int (nI (stt p))), (6, .int (nI ((zw N (srt p) (stt p) (bed p) hm hc cr ld h).1))), (7, .int (nI (cr (if h + ld ≤ 23 then h + ld else 23)))), (8, .int (nI h))] [] μ rfl trivial ?_
        rw [ea, ecx] at key
        exact key
set_option maxRecDepth 100000 in
set_option maxHeartbeats 4000000 in
theorem zs_walk40 {p : Nat} {srt stt bed hm cr tb : Nat → Nat} {N : Nat → Nat → Nat → Nat} {hc : Bool} {ld cx : Nat} {μ0 : zq_Me} {np : Nat} (hP : zP40 np srt stt bed μ0) (hpn : p < np) (hl9 : ld ≤ 9) (hld0 : μ0.1 40 10 = nI ld) (hH0 : ∀ i, i < 24 → μ0.1 42 i = zdn (hm i) ∧ hm i ≤ 8) (hm0 : ∀ h i, i ≤ h → h < 24 → hm h = 0 → hm i = 0) (hT0 : ∀ i, i < 24 → μ0.1 44 i = nI (tb i * 64) ∧ tb i ≤ 8) (hN0 : ∀ i x t, i < 24 → x < 8 → t < 8 → μ0.1 45 (tb i * 64 + x * 8 + t) = nI (N i t x)) (hNl : ∀ h t x, h < 24 → t < 8 → x < 8 → N h t x < 8) (hcr : ∀ h, h < 24 → cr h < 8) (hcx8 : cx ≤ 8) (hcx : hc = decide (¬ cx = 0)) (hcp : ∀ c, cx = c + 1 → c < 8 ∧ c ≠ p ∧ ∀ i, i < 24 → μ0.1 41 (i * 8 + c) = nI (cr i)) : zq_Wp zn_X7_walk 0 [(0, .ref 40), (1, .int (nI p)), (2, .int (zdn cx))] [] μ0 (fun r μ => r = none ∧ (zq_fr [41] μ0 μ ∧ (∀ i, i < 24 → μ.1 41 (i * 8 + p) = nI (zw N (srt p) (stt p) (bed p) hm hc cr ld (i + 1)).1) ∧ ∀ q, q % 8 ≠ p → μ.1 41 q = μ0.1 41 q)) := by
  have hq := hP.2.2 p hpn
  have hp : p < 8 := by have := hP.1; omega
  refine zq_go zt_X7_walk 2 [] 2 [(0, .ref 40), (1, .int (nI p)), (2, .int (zdn cx))] [.int (nI p), .ref 40] μ0 rfl trivial ?_
  refine zq_call zt_X7_walk [.ref 40, .int (nI p)] [] (zs_sortOf40 hP hpn) rfl rfl ?_
  rintro _ _ ⟨rfl, rfl⟩
  refine zq_go zt_X7_walk 3 [] 8 [(0, .ref 40), (1, .int (nI p)), (2, .int (zdn cx)), (3, .int (nI (srt p)))] [.int (nI p), .ref 40] μ0 rfl trivial ?_
  refine zq_call zt_X7_walk [.ref 40, .int (nI p)] [] (zs_bedOf40 hP hpn) rfl rfl ?_
  rintro _ _ ⟨rfl, rfl⟩
  refine zq_go zt_X7_walk 13 [vp_in (nI p) 8] 35 [(0, .ref 40), (1, .int (nI p)), (2, .int (zdn cx)), (3, .int (nI (srt p))), (4, .int (nI (bed p))), (5, .int (μ0.1 9 ((nI p).toNatClampNeg))), (6, .int (μ0.1 9 ((nI p).toNatClampNeg))), (7, .int (nI (bed p))), (8, .int (nI 0))] [] μ0 rfl ⟨zn_in (k := p) rfl (by omega) (by decide), trivial⟩ ?_
  rw [zn_cl (n := p) (by omega), hq.2.2.1]
  refine zs_walk40_h hp hq.2.1 hq.2.2.2.1 hq.2.2.2.2.2 hl9 hld0 hH0 hm0 hT0 hN0 hNl hcr hcx8 hcx hcp (fun μ1 hI => ?_) 24 0 (bed p) μ0 (by omega) hq.2.2.2.2.2 ⟨fun _ => rfl, fun _ _ => rfl, fun _ _ => rfl⟩ ⟨zq_fr.rf, fun i hi => absurd hi (Nat.not_lt_zero i), fun _ _ => rfl⟩
  exact zq_retn zt_X7_walk rfl rfl ⟨rfl, hI⟩
