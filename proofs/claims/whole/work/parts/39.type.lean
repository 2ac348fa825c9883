/-! ===== texts: type, wipe, undo, fault, door, person ===== -/
def zTf1 (b : Nat → Nat) (n : Nat) (μ : zq_Me) : Prop := zTxt 1 35 3 b n μ ∧ μ.1 1 4 = zdn (ztf (zok1 b) 3 n) ∧ μ.1 1 5 = nI (ztm (zok1 b) 3 n) ∧ ∀ e, e < ztm (zok1 b) 3 n → μ.1 3 e = nI (zo1 b e) ∧ μ.1 4 e = nI (zo2 b e)
def zTf6 (b : Nat → Nat) (n : Nat) (μ : zq_Me) : Prop := zTxt 6 31 4 b n μ ∧ μ.1 6 4 = zdn (ztf (zok6 b) 4 n) ∧ μ.1 6 5 = nI (ztm (zok6 b) 4 n) ∧ ∀ e, e < ztm (zok6 b) 4 n → μ.1 8 e = nI (zps b e) ∧ μ.1 9 e = nI (zpt b e) ∧ μ.1 10 e = nI (zpb b e)
theorem zTf1.fr {b : Nat → Nat} {n : Nat} {μ μ1 : zq_Me} {S : List Nat} (h : zTf1 b n μ) (hf : zq_fr S μ μ1) (hs : 1 ∉ S ∧ 2 ∉ S ∧ 3 ∉ S ∧ 4 ∉ S) : zTf1 b n μ1 := by
  refine ⟨h.1.sl (fun i _ => by rw [hf.a hs.1]) (hf.a hs.2.1), ?_⟩
  rw [hf.a hs.1, hf.a hs.2.2.1, hf.a hs.2.2.2]
  exact h.2
theorem zTf6.fr {b : Nat → Nat} {n : Nat} {μ μ1 : zq_Me} {S : List Nat} (h : zTf6 b n μ) (hf : zq_fr S μ μ1) (hs : 6 ∉ S ∧ 7 ∉ S ∧ 8 ∉ S ∧ 9 ∉ S ∧ 10 ∉ S) : zTf6 b n μ1 := by
  refine ⟨h.1.sl (fun i _ => by rw [hf.a hs.1]) (hf.a hs.2.1), ?_⟩
  rw [hf.a hs.1, hf.a hs.2.2.1, hf.a hs.2.2.2.1, hf.a hs.2.2.2.2]
  exact h.2
theorem zIc.tf1 {τ : zTd} {S : zES} {H : zSH} {μ : zq_Me} (h : zIc τ S H μ) : zTf1 (yb0 τ) (yn0 τ) μ := ⟨h.1.1, h.1.2.2.1, h.2.1.1.2.1, fun e he => ⟨(h.2.1.1.2.2.1 e he).1, (h.2.1.1.2.2.2 e he).1⟩⟩
theorem zIc.tf6 {τ : zTd} {S : zES} {H : zSH} {μ : zq_Me} (h : zIc τ S H μ) : zTf6 (yb1 τ) (yn1 τ) μ := ⟨h.1.2.1, h.1.2.2.2, h.2.1.2.2.1, fun e he => ⟨(h.2.1.2.2.2 e he).1, (h.2.1.2.2.2 e he).2.2.1, (h.2.1.2.2.2 e he).2.2.2.2.1⟩⟩
def ytc (μ μ1 : zq_Me) : Prop := μ1.1 0 14 = 0 ∧ μ1.1 0 16 = -1 ∧ (∀ i, i ≠ 14 → i ≠ 16 → μ1.1 0 i = μ.1 0 i) ∧ ∀ j, j < 9 → μ1.1 39 j = -1 ∧ μ1.1 46 j = -1
theorem zIc.tx0 {τ : zTd} {S : zES} {H : zSH} {μ μ1 : zq_Me} (h : zIc τ S H μ) {b : Nat → Nat} {n : Nat} (hf : zq_fr [0, 1, 2, 3, 4, 39, 46] μ μ1) (hc : ytc μ μ1) (ht : zTf1 b n μ1) : zIc ((n, b), τ.2) S H μ1 := by
  obtain ⟨a, b', d, e, f, g, o, s, k, hk⟩ := h
  obtain ⟨h14, h16, h0, hj⟩ := hc
  have hn : n ≤ 35 := ht.1.1
  have hd : ztm (zok1 b) 3 n ≤ 12 := Nat.le_trans ztm_le (by omega)
  refine ⟨⟨ht.1, a.2.1.sl (fun i _ => by rw [hf.a (b := 6) (by decide)]) (hf.a (by decide)), ht.2.1, by rw [hf.a (b := 6) (by decide)]; exact a.2.2.2⟩, ⟨⟨hd, ht.2.2.1, fun d hd => ⟨(ht.2.2.2 d hd).1, (zo_lt hd).1⟩, fun d hd => ⟨(ht.2.2.2 d hd).2, (zo_lt hd).2⟩⟩, b'.2.fr hf (by decide)⟩, ⟨by rw [h0 12 (by decide) (by decide)]; exact d.1, d.2⟩, e.fr hf (by decide), ⟨by rw [hf.a (b := 33) (by decide)]; exact f.1, fun sp hsp => Or.inl (hj sp hsp).1, Or.inl h14⟩, ⟨by rw [hf.a (b := 40) (by decide)]; exact g.1, fun sp hsp => Or.inl (hj sp hsp).2⟩, Or.inl h16, s.sl (by rw [hf.a (b := 20) (by decide)]) (hf.a (by decide)) (hf.a (by decide)) (hf.a (by decide)), k.sl (h0 13 (by decide) (by decide)) (fun b h1 h2 => hf.a (by simp; omega)), hk⟩
theorem zIc.tx1 {τ : zTd} {S : zES} {H : zSH} {μ μ1 : zq_Me} (h : zIc τ S H μ) {b : Nat → Nat} {n : Nat} (hf : zq_fr [0, 6, 7, 8, 9, 10, 39, 46] μ μ1) (hc : ytc μ μ1) (ht : zTf6 b n μ1) : zIc (τ.1, (n, b), τ.2.2) S H μ1 := by
  obtain ⟨a, b', d, e, f, g, o, s, k, hk⟩ := h
  obtain ⟨h14, h16, h0, hj⟩ := hc
  have hn : n ≤ 31 := ht.1.1
  have hd : ztm (zok6 b) 4 n ≤ 8 := Nat.le_trans ztm_le (by omega)
  refine ⟨⟨a.1.sl (fun i _ => by rw [hf.a (b := 1) (by decide)]) (hf.a (by decide)), ht.1, by rw [hf.a (b := 1) (by decide)]; exact a.2.2.1, ht.2.1⟩, ⟨b'.1.fr hf (by decide), ⟨hd, ht.2.2.1, fun d hd => ⟨(ht.2.2.2 d hd).1, (zp_lt hd).1, (ht.2.2.2 d hd).2.1, (zp_lt hd).2.1, (ht.2.2.2 d hd).2.2, (zp_lt hd).2.2⟩⟩⟩, ⟨by rw [h0 12 (by decide) (by decide)]; exact d.1, d.2⟩, e.fr hf (by decide), ⟨by rw [hf.a (b := 33) (by decide)]; exact f.1, fun sp hsp => Or.inl (hj sp hsp).1, Or.inl h14⟩, ⟨by rw [hf.a (b := 40) (by decide)]; exact g.1, fun sp hsp => Or.inl (hj sp hsp).2⟩, Or.inl h16, s.sl (by rw [hf.a (b := 20) (by decide)]) (hf.a (by decide)) (hf.a (by decide)) (hf.a (by decide)), k.sl (h0 13 (by decide) (by decide)) (fun b h1 h2 => hf.a (by simp; omega)), hk⟩
theorem zIm.tx {τ τ' : zTd} {S : zES} {H : zSH} {μ μ1 : zq_Me} (h : zIm τ S H μ) (hf : zq_fr [51, 52] μ μ1) (h0 : zTm 0 35 (yb0 τ') (yn0 τ') μ1) (h1 : zTm 1 31 (yb1 τ') (yn1 τ') μ1) (h2 : τ'.2.2 = τ.2.2) : zIm τ' S H μ1 := by
  obtain ⟨a, b, c, d, e, k⟩ := h
  have q0 : μ1.1 50 = μ.1 50 := hf.a (by decide)
  have ed : yld τ' = yld τ := by unfold yld; rw [h2]
  have e1 : yne τ' = yne τ := by unfold yne; rw [h2]
  have e2 : yek τ' = yek τ := by unfold yek; rw [h2]
  have e3 : yeh τ' = yeh τ := by unfold yeh; rw [h2]
  have e4 : yen τ' = yen τ := by unfold yen; rw [h2]
  refine ⟨⟨h0, h1⟩, by rw [ed, q0]; exact b, ?_, d.sl (by rw [q0]) (hf.a (by decide)) (hf.a (by decide)) (hf.a (by decide)), ⟨fun s hs => ?_, by rw [q0]; exact e.2⟩, k⟩
  · rw [e1, e2, e3, e4]
    exact ⟨c.1.sl (by rw [q0]) (hf.a (by decide)) (hf.a (by decide)) (hf.a (by decide)), c.2⟩
  · rw [hf.a (b := 72) (by decide), hf.a (b := 73) (by decide), hf.a (b := 74) (by decide), hf.a (b := 75) (by decide)]
    exact e.1 s hs
set_option maxRecDepth 100000 in
set_option maxHeartbeats 400000 in
theorem zs_textOf_0 (μ : zq_Me) : zq_Wp zn_X8_textOf 0 [(0, .ref 0), (1, .int (nI 0))] [] μ (fun v μ1 => v = some (.ref 1) ∧ μ = μ1) := by
  refine zq_go zt_X8_textOf 2 [] (if ¬ (nI 0) = 0 then 9 else 4) [(0, .ref 0), (1, .int (nI 0))] [] μ rfl trivial ?_
  rw [if_neg (by decide)]
  refine zq_go zt_X8_textOf 2 [] 8 [(0, .ref 0), (1, .int (nI 0))] [.ref 1] μ rfl trivial ?_
  exact zq_retn zt_X8_textOf rfl rfl (⟨rfl, rfl⟩)
set_option maxRecDepth 100000 in
set_option maxHeartbeats 400000 in
theorem zs_textOf_1 (μ : zq_Me) : zq_Wp zn_X8_textOf 0 [(0, .ref 0), (1, .int (nI 1))] [] μ (fun v μ1 => v = some (.ref 6) ∧ μ = μ1) := by
  refine zq_go zt_X8_textOf 2 [] (if ¬ (nI 1) = 0 then 9 else 4) [(0, .ref 0), (1, .int (nI 1))] [] μ rfl trivial ?_
  rw [if_pos (by decide)]
  refine zq_go zt_X8_textOf 3 [] (if ¬ (nI 1) = (nI 1) then 21 else 14) [(0, .ref 0), (1, .int (nI 1))] [] μ rfl trivial ?_
  rw [if_neg (by decide)]
  refine zq_go zt_X8_textOf 3 [] 22 [(0, .ref 0), (1, .int (nI 1))] [.ref 6] μ rfl trivial ?_
  exact zq_retn zt_X8_textOf rfl rfl (⟨rfl, rfl⟩)
set_option maxRecDepth 100000 in
set_option maxHeartbeats 400000 in
theorem zs_textOf_x {v : Int32} (h0 : ¬ v = 0) (h1 : ¬ v = nI 1) (μ : zq_Me) : zq_Wp zn_X8_textOf 0 [(0, .ref 0), (1, .int v)] [] μ (fun v μ1 => v = some .null ∧ μ = μ1) := by
  refine zq_go zt_X8_textOf 2 [] (if ¬ v = 0 then 9 else 4) [(0, .ref 0), (1, .int v)] [] μ rfl trivial ?_
  rw [if_pos (h0)]
  refine zq_go zt_X8_textOf 3 [] (if ¬ v = (nI 1) then 21 else 14) [(0, .ref 0), (1, .int v)] [] μ rfl trivial ?_
  rw [if_pos (h1)]
  refine zq_go zt_X8_textOf 1 [] 22 [(0, .ref 0), (1, .int v)] [.null] μ rfl trivial ?_
  exact zq_retn zt_X8_textOf rfl rfl (⟨rfl, rfl⟩)
set_option maxRecDepth 100000 in
set_option maxHeartbeats 400000 in
theorem zs_type_x {τ : zTd} {S : zES} {H : zSH} {μ0 : zq_Me} (v : Int32) (h0 : ¬ v = 0) (h1 : ¬ v = nI 1) (v2 : Int32) (hC : zIc τ S H μ0) : zq_Wp zn_X8_type 0 [(0, .ref 0), (1, .int v), (2, .int v2)] [] μ0 (zRc (.int (-2)) τ S H μ0) := by
  refine zq_go zt_X8_type 2 [] 2 [(0, .ref 0), (1, .int v), (2, .int v2)] [.int v, .ref 0] μ0 rfl trivial ?_
  refine zq_call zt_X8_type [.ref 0, .int v] [] (zs_textOf_x h0 h1 μ0) rfl rfl ?_
  rintro _ _ ⟨rfl, rfl⟩
  refine zq_go zt_X8_type 3 [] 21 [(0, .ref 0), (1, .int v), (2, .int v2), (3, .null)] [] μ0 rfl trivial ?_
  refine zq_go zt_X8_type 1 [] 23 [(0, .ref 0), (1, .int v), (2, .int v2), (3, .null)] [.int (-2)] μ0 rfl trivial ?_
  exact zq_retn zt_X8_type rfl rfl (⟨rfl, hC, zq_fr.rf⟩)
set_option maxRecDepth 100000 in
set_option maxHeartbeats 400000 in
theorem zs_wipe_x {τ : zTd} {S : zES} {H : zSH} {μ0 : zq_Me} (v : Int32) (h0 : ¬ v = 0) (h1 : ¬ v = nI 1) (hC : zIc τ S H μ0) : zq_Wp zn_X8_wipe 0 [(0, .ref 0), (1, .int v)] [] μ0 (zRc (.int (-2)) τ S H μ0) := by
  refine zq_go zt_X8_wipe 2 [] 2 [(0, .ref 0), (1, .int v)] [.int v, .ref 0] μ0 rfl trivial ?_
  refine zq_call zt_X8_wipe [.ref 0, .int v] [] (zs_textOf_x h0 h1 μ0) rfl rfl ?_
  rintro _ _ ⟨rfl, rfl⟩
  refine zq_go zt_X8_wipe 3 [] 10 [(0, .ref 0), (1, .int v), (2, .null)] [] μ0 rfl trivial ?_
  refine zq_go zt_X8_wipe 1 [] 12 [(0, .ref 0), (1, .int v), (2, .null)] [.int (-2)] μ0 rfl trivial ?_
  exact zq_retn zt_X8_wipe rfl rfl (⟨rfl, hC, zq_fr.rf⟩)
set_option maxRecDepth 100000 in
set_option maxHeartbeats 400000 in
theorem zs_undo_x {τ : zTd} {S : zES} {H : zSH} {μ0 : zq_Me} (v : Int32) (h0 : ¬ v = 0) (h1 : ¬ v = nI 1) (hC : zIc τ S H μ0) : zq_Wp zn_X8_undo 0 [(0, .ref 0), (1, .int v)] [] μ0 (zRc (.int (-2)) τ S H μ0) := by
  refine zq_go zt_X8_undo 2 [] 2 [(0, .ref 0), (1, .int v)] [.int v, .ref 0] μ0 rfl trivial ?_
  refine zq_call zt_X8_undo [.ref 0, .int v] [] (zs_textOf_x h0 h1 μ0) rfl rfl ?_
  rintro _ _ ⟨rfl, rfl⟩
  refine zq_go zt_X8_undo 3 [] 10 [(0, .ref 0), (1, .int v), (2, .null)] [] μ0 rfl trivial ?_
  refine zq_go zt_X8_undo 1 [] 12 [(0, .ref 0), (1, .int v), (2, .null)] [.int (-2)] μ0 rfl trivial ?_
  exact zq_retn zt_X8_undo rfl rfl (⟨rfl, hC, zq_fr.rf⟩)
set_option maxRecDepth 100000 in
set_option maxHeartbeats 400000 in
theorem zs_fault_x {τ : zTd} {S : zES} {H : zSH} {μ0 : zq_Me} (v : Int32) (h0 : ¬ v = 0) (h1 : ¬ v = nI 1) (hC : zIc τ S H μ0) : zq_Wp zn_X8_fault 0 [(0, .ref 0), (1, .int v)] [] μ0 (zRc (.int (-2)) τ S H μ0) := by
  refine zq_go zt_X8_fault 2 [] 2 [(0, .ref 0), (1, .int v)] [.int v, .ref 0] μ0 rfl trivial ?_
  refine zq_call zt_X8_fault [.ref 0, .int v] [] (zs_textOf_x h0 h1 μ0) rfl rfl ?_
  rintro _ _ ⟨rfl, rfl⟩
  refine zq_go zt_X8_fault 3 [] 10 [(0, .ref 0), (1, .int v), (2, .null)] [] μ0 rfl trivial ?_
  refine zq_go zt_X8_fault 2 [] 19 [(0, .ref 0), (1, .int v), (2, .null)] [.int (-2)] μ0 rfl trivial ?_
  exact zq_retn zt_X8_fault rfl rfl (⟨rfl, hC, zq_fr.rf⟩)
set_option maxRecDepth 100000 in
set_option maxHeartbeats 400000 in
theorem zs_type_0 {τ : zTd} {S : zES} {H : zSH} {μ0 : zq_Me} {x : Nat} (lx : x ≤ 255) (hl : yn0 τ < 35) (hC : zIc τ S H μ0) : zq_Wp zn_X8_type 0 [(0, .ref 0), (1, .int (nI 0)), (2, .int (nI x))] [] μ0 (zRc (.int (nI (yn0 τ + 1))) ((yn0 τ + 1, (fun i => if i = yn0 τ then x else yb0 τ i)), τ.2) S H μ0) := by
  refine zq_go zt_X8_type 2 [] 2 [(0, .ref 0), (1, .int (nI 0)), (2, .int (nI x))] [.int (nI 0), .ref 0] μ0 rfl trivial ?_
  refine zq_call zt_X8_type [.ref 0, .int (nI 0)] [] (zs_textOf_0 μ0) rfl rfl ?_
  rintro _ _ ⟨rfl, rfl⟩
  refine zq_go zt_X8_type 3 [] 10 [(0, .ref 0), (1, .int (nI 0)), (2, .int (nI x)), (3, .ref 1)] [] μ0 rfl trivial ?_
  refine zq_go zt_X8_type 3 [] 15 [(0, .ref 0), (1, .int (nI 0)), (2, .int (nI x)), (3, .ref 1)] [.int (nI 255), .int (nI 0), .int (nI x)] μ0 rfl trivial ?_
  refine zq_call zt_X8_type [.int (nI x), .int (nI 0), .int (nI 255)] [] (zs_within (nI x) (nI 0) (nI 255) μ0) rfl rfl ?_
  rintro _ _ ⟨rfl, rfl⟩
  refine zq_go zt_X8_type 1 [] (if ¬ (zb (0 ≤ nI x ∧ nI x ≤ nI 255)) = 0 then 24 else 21) [(0, .ref 0), (1, .int (nI 0)), (2, .int (nI x)), (3, .ref 1)] [] μ0 rfl trivial ?_
  rw [if_pos (zb_n (yin (by omega) (by decide)))]
  refine zq_go zt_X8_type 1 [] 25 [(0, .ref 0), (1, .int (nI 0)), (2, .int (nI x)), (3, .ref 1)] [.ref 1] μ0 rfl trivial ?_
  refine zq_call zt_X8_type [.ref 1] [] (zs_isFull1 hC.1.1) rfl rfl ?_
  rintro _ _ ⟨rfl, rfl⟩
  refine zq_go zt_X8_type 1 [] (if (zB (decide (yn0 τ = 35))) = 0 then 34 else 31) [(0, .ref 0), (1, .int (nI 0)), (2, .int (nI x)), (3, .ref 1)] [] μ0 rfl trivial ?_
  rw [if_pos (by rw [decide_eq_false (by omega)]; rfl)]
  refine zq_go zt_X8_type 2 [] 36 [(0, .ref 0), (1, .int (nI 0)), (2, .int (nI x)), (3, .ref 1)] [.int (nI x), .ref 1] μ0 rfl trivial ?_
  refine zq_call zt_X8_type [.ref 1, .int (nI x)] [] (zs_add1 (x := x) hC.1.1 hl (by omega)) rfl rfl ?_
  rintro _ μ1 ⟨rfl, f1, h1⟩
  have hT1 : zTf1 (fun i => if i = yn0 τ then x else yb0 τ i) (yn0 τ + 1) μ1 := h1
  refine zq_go zt_X8_type 1 [] 40 [(0, .ref 0), (1, .int (nI 0)), (2, .int (nI x)), (3, .ref 1)] [.ref 0] μ1 rfl trivial ?_
  refine zq_call zt_X8_type [.ref 0] [] (zs_textChanged μ1) rfl rfl ?_
  rintro _ μ2 ⟨rfl, f2, hc1, hc2, hc3, hc4⟩
  have f9 : zq_fr [0, 1, 2, 3, 4, 39, 46] μ0 μ2 := (f1.wk (by simp +contextual)).tr (f2.wk (by simp))
  have hc : ytc μ0 μ2 := ⟨hc1, hc2, fun i p q => by rw [hc3 i p q, f1.a (b := 0) (by decide)], hc4⟩
  have hT2 : zTf1 (fun i => if i = yn0 τ then x else yb0 τ i) (yn0 τ + 1) μ2 := hT1.fr f2 (by decide)
  have hI := hC.tx0 f9 hc hT2
  refine zq_go zt_X8_type 2 [] 47 [(0, .ref 0), (1, .int (nI 0)), (2, .int (nI x)), (3, .ref 1)] [.int (μ2.1 1 3)] μ2 rfl trivial ?_
  rw [hT2.1.2.2.2.1]
  exact zq_retn zt_X8_type rfl rfl (⟨rfl, hI, f9.wk (by simp +contextual [zSC])⟩)
set_option maxRecDepth 100000 in
set_option maxHeartbeats 400000 in
theorem zs_typeF_0 {τ : zTd} {S : zES} {H : zSH} {μ0 : zq_Me} {x : Nat} (lx : x ≤ 255) (hl : yn0 τ = 35) (hC : zIc τ S H μ0) : zq_Wp zn_X8_type 0 [(0, .ref 0), (1, .int (nI 0)), (2, .int (nI x))] [] μ0 (zRc (.int (-4)) τ S H μ0) := by
  refine zq_go zt_X8_type 2 [] 2 [(0, .ref 0), (1, .int (nI 0)), (2, .int (nI x))] [.int (nI 0), .ref 0] μ0 rfl trivial ?_
  refine zq_call zt_X8_type [.ref 0, .int (nI 0)] [] (zs_textOf_0 μ0) rfl rfl ?_
  rintro _ _ ⟨rfl, rfl⟩
  refine zq_go zt_X8_type 3 [] 10 [(0, .ref 0), (1, .int (nI 0)), (2, .int (nI x)), (3, .ref 1)] [] μ0 rfl trivial ?_
  refine zq_go zt_X8_type 3 [] 15 [(0, .ref 0), (1, .int (nI 0)), (2, .int (nI x)), (3, .ref 1)] [.int (nI 255), .int (nI 0), .int (nI x)] μ0 rfl trivial ?_
  refine zq_call zt_X8_type [.int (nI x), .int (nI 0), .int (nI 255)] [] (zs_within (nI x) (nI 0) (nI 255) μ0) rfl rfl ?_
  rintro _ _ ⟨rfl, rfl⟩
  refine zq_go zt_X8_type 1 [] (if ¬ (zb (0 ≤ nI x ∧ nI x ≤ nI 255)) = 0 then 24 else 21) [(0, .ref 0), (1, .int (nI 0)), (2, .int (nI x)), (3, .ref 1)] [] μ0 rfl trivial ?_
  rw [if_pos (zb_n (yin (by omega) (by decide)))]
  refine zq_go zt_X8_type 1 [] 25 [(0, .ref 0), (1, .int (nI 0)), (2, .int (nI x)), (3, .ref 1)] [.ref 1] μ0 rfl trivial ?_
  refine zq_call zt_X8_type [.ref 1] [] (zs_isFull1 hC.1.1) rfl rfl ?_
  rintro _ _ ⟨rfl, rfl⟩
  refine zq_go zt_X8_type 1 [] (if (zB (decide (yn0 τ = 35))) = 0 then 34 else 31) [(0, .ref 0), (1, .int (nI 0)), (2, .int (nI x)), (3, .ref 1)] [] μ0 rfl trivial ?_
  rw [if_neg (by rw [decide_eq_true hl]; decide)]
  refine zq_go zt_X8_type 1 [] 33 [(0, .ref 0), (1, .int (nI 0)), (2, .int (nI x)), (3, .ref 1)] [.int (-4)] μ0 rfl trivial ?_
  exact zq_retn zt_X8_type rfl rfl (⟨rfl, hC, zq_fr.rf⟩)
set_option maxRecDepth 100000 in
set_option maxHeartbeats 400000 in
theorem zs_typeB_0 {τ : zTd} {S : zES} {H : zSH} {μ0 : zq_Me} (v2 : Int32) (hg : ¬ (0 ≤ v2 ∧ v2 ≤ nI 255)) (hC : zIc τ S H μ0) : zq_Wp zn_X8_type 0 [(0, .ref 0), (1, .int (nI 0)), (2, .int v2)] [] μ0 (zRc (.int (-2)) τ S H μ0) := by
  refine zq_go zt_X8_type 2 [] 2 [(0, .ref 0), (1, .int (nI 0)), (2, .int v2)] [.int (nI 0), .ref 0] μ0 rfl trivial ?_
  refine zq_call zt_X8_type [.ref 0, .int (nI 0)] [] (zs_textOf_0 μ0) rfl rfl ?_
  rintro _ _ ⟨rfl, rfl⟩
  refine zq_go zt_X8_type 3 [] 10 [(0, .ref 0), (1, .int (nI 0)), (2, .int v2), (3, .ref 1)] [] μ0 rfl trivial ?_
  refine zq_go zt_X8_type 3 [] 15 [(0, .ref 0), (1, .int (nI 0)), (2, .int v2), (3, .ref 1)] [.int (nI 255), .int (nI 0), .int v2] μ0 rfl trivial ?_
  refine zq_call zt_X8_type [.int v2, .int (nI 0), .int (nI 255)] [] (zs_within v2 (nI 0) (nI 255) μ0) rfl rfl ?_
  rintro _ _ ⟨rfl, rfl⟩
  refine zq_go zt_X8_type 1 [] (if ¬ (zb (0 ≤ v2 ∧ v2 ≤ nI 255)) = 0 then 24 else 21) [(0, .ref 0), (1, .int (nI 0)), (2, .int v2), (3, .ref 1)] [] μ0 rfl trivial ?_
  rw [if_neg (fun q => q (zb_f hg))]
  refine zq_go zt_X8_type 1 [] 23 [(0, .ref 0), (1, .int (nI 0)), (2, .int v2), (3, .ref 1)] [.int (-2)] μ0 rfl trivial ?_
  exact zq_retn zt_X8_type rfl rfl (⟨rfl, hC, zq_fr.rf⟩)
set_option maxRecDepth 100000 in
set_option maxHeartbeats 400000 in
theorem zs_wipe_0 {τ : zTd} {S : zES} {H : zSH} {μ0 : zq_Me} (hl : 0 < yn0 τ) (hC : zIc τ S H μ0) : zq_Wp zn_X8_wipe 0 [(0, .ref 0), (1, .int (nI 0))] [] μ0 (zRc (.int (nI (yn0 τ))) ((0, yb0 τ), τ.2) S H μ0) := by
  refine zq_go zt_X8_wipe 2 [] 2 [(0, .ref 0), (1, .int (nI 0))] [.int (nI 0), .ref 0] μ0 rfl trivial ?_
  refine zq_call zt_X8_wipe [.ref 0, .int (nI 0)] [] (zs_textOf_0 μ0) rfl rfl ?_
  rintro _ _ ⟨rfl, rfl⟩
  refine zq_go zt_X8_wipe 3 [] 13 [(0, .ref 0), (1, .int (nI 0)), (2, .ref 1)] [] μ0 rfl trivial ?_
  refine zq_go zt_X8_wipe 5 [] 20 [(0, .ref 0), (1, .int (nI 0)), (2, .ref 1), (3, .int (μ0.1 1 3))] [.int (nI 0), .ref 1] μ0 rfl trivial ?_
  rw [hC.1.1.2.2.2.1]
  refine zq_call zt_X8_wipe [.ref 1, .int (nI 0)] [] (zs_shorten1 hC.1.1 hl) rfl rfl ?_
  rintro _ μ1 ⟨rfl, f1, h1⟩
  have hT1 : zTf1 (yb0 τ) 0 μ1 := h1
  refine zq_go zt_X8_wipe 1 [] 24 [(0, .ref 0), (1, .int (nI 0)), (2, .ref 1), (3, .int (nI (yn0 τ)))] [.ref 0] μ1 rfl trivial ?_
  refine zq_call zt_X8_wipe [.ref 0] [] (zs_textChanged μ1) rfl rfl ?_
  rintro _ μ2 ⟨rfl, f2, hc1, hc2, hc3, hc4⟩
  have f9 : zq_fr [0, 1, 2, 3, 4, 39, 46] μ0 μ2 := (f1.wk (by simp +contextual)).tr (f2.wk (by simp))
  have hc : ytc μ0 μ2 := ⟨hc1, hc2, fun i p q => by rw [hc3 i p q, f1.a (b := 0) (by decide)], hc4⟩
  have hT2 : zTf1 (yb0 τ) 0 μ2 := hT1.fr f2 (by decide)
  have hI := hC.tx0 f9 hc hT2
  refine zq_go zt_X8_wipe 1 [] 28 [(0, .ref 0), (1, .int (nI 0)), (2, .ref 1), (3, .int (nI (yn0 τ)))] [.int (nI (yn0 τ))] μ2 rfl trivial ?_
  exact zq_retn zt_X8_wipe rfl rfl (⟨rfl, hI, f9.wk (by simp +contextual [zSC])⟩)
set_option maxRecDepth 100000 in
set_option maxHeartbeats 400000 in
theorem zs_wipe0_0 {τ : zTd} {S : zES} {H : zSH} {μ0 : zq_Me} (hl : yn0 τ = 0) (hC : zIc τ S H μ0) : zq_Wp zn_X8_wipe 0 [(0, .ref 0), (1, .int (nI 0))] [] μ0 (zRc (.int (nI (yn0 τ))) ((0, yb0 τ), τ.2) S H μ0) := by
  refine zq_go zt_X8_wipe 2 [] 2 [(0, .ref 0), (1, .int (nI 0))] [.int (nI 0), .ref 0] μ0 rfl trivial ?_
  refine zq_call zt_X8_wipe [.ref 0, .int (nI 0)] [] (zs_textOf_0 μ0) rfl rfl ?_
  rintro _ _ ⟨rfl, rfl⟩
  refine zq_go zt_X8_wipe 3 [] 13 [(0, .ref 0), (1, .int (nI 0)), (2, .ref 1)] [] μ0 rfl trivial ?_
  refine zq_go zt_X8_wipe 5 [] 20 [(0, .ref 0), (1, .int (nI 0)), (2, .ref 1), (3, .int (μ0.1 1 3))] [.int (nI 0), .ref 1] μ0 rfl trivial ?_
  rw [hC.1.1.2.2.2.1]
  refine zq_call zt_X8_wipe [.ref 1, .int (nI 0)] [] (zs_shorten1_0 hC.1.1 (k := 0) (by decide) (by omega)) rfl rfl ?_
  rintro _ μ1 ⟨rfl, e1⟩
  have f1 : zq_fr [1] μ0 μ1 := by rw [e1]; exact zq_fr.rf
  have hT1 : zTf1 (yb0 τ) 0 μ1 := by have h9 := hC.tf1; rw [hl] at h9; rw [e1]; exact h9
  refine zq_go zt_X8_wipe 1 [] 24 [(0, .ref 0), (1, .int (nI 0)), (2, .ref 1), (3, .int (nI (yn0 τ)))] [.ref 0] μ1 rfl trivial ?_
  refine zq_call zt_X8_wipe [.ref 0] [] (zs_textChanged μ1) rfl rfl ?_
  rintro _ μ2 ⟨rfl, f2, hc1, hc2, hc3, hc4⟩
  have f9 : zq_fr [0, 1, 2, 3, 4, 39, 46] μ0 μ2 := (f1.wk (by simp +contextual)).tr (f2.wk (by simp))
  have hc : ytc μ0 μ2 := ⟨hc1, hc2, fun i p q => by rw [hc3 i p q, f1.a (b := 0) (by decide)], hc4⟩
  have hT2 : zTf1 (yb0 τ) 0 μ2 := hT1.fr f2 (by decide)
  have hI := hC.tx0 f9 hc hT2
  refine zq_go zt_X8_wipe 1 [] 28 [(0, .ref 0), (1, .int (nI 0)), (2, .ref 1), (3, .int (nI (yn0 τ)))] [.int (nI (yn0 τ))] μ2 rfl trivial ?_
  exact zq_retn zt_X8_wipe rfl rfl (⟨rfl, hI, f9.wk (by simp +contextual [zSC])⟩)
set_option maxRecDepth 100000 in
set_option maxHeartbeats 400000 in
theorem zs_undo_0 {τ : zTd} {S : zES} {H : zSH} {μ0 : zq_Me} (hl : 0 < yn0 τ) (hC : zIc τ S H μ0) : zq_Wp zn_X8_undo 0 [(0, .ref 0), (1, .int (nI 0))] [] μ0 (zRc (.int (nI (yn0 τ - 1))) ((yn0 τ - 1, yb0 τ), τ.2) S H μ0) := by
  refine zq_go zt_X8_undo 2 [] 2 [(0, .ref 0), (1, .int (nI 0))] [.int (nI 0), .ref 0] μ0 rfl trivial ?_
  refine zq_call zt_X8_undo [.ref 0, .int (nI 0)] [] (zs_textOf_0 μ0) rfl rfl ?_
  rintro _ _ ⟨rfl, rfl⟩
  have hn9 : yn0 τ ≤ 35 := hC.1.1.1
  refine zq_go zt_X8_undo 3 [] 13 [(0, .ref 0), (1, .int (nI 0)), (2, .ref 1)] [] μ0 rfl trivial ?_
  refine zq_go zt_X8_undo 3 [] (if ¬ (μ0.1 1 3) = 0 then 23 else 20) [(0, .ref 0), (1, .int (nI 0)), (2, .ref 1)] [] μ0 rfl trivial ?_
  rw [hC.1.1.2.2.2.1]
  rw [if_pos (by rw [show (0 : Int32) = nI 0 from rfl, zn_eq (by omega) (by omega)]; omega)]
  refine zq_go zt_X8_undo 5 [] 30 [(0, .ref 0), (1, .int (nI 0)), (2, .ref 1)] [.int ((μ0.1 1 3) - (nI 1)), .ref 1] μ0 rfl trivial ?_
  rw [hC.1.1.2.2.2.1, zn_sub (show 1 ≤ (yn0 τ) by omega)]
  refine zq_call zt_X8_undo [.ref 1, .int (nI ((yn0 τ) - 1))] [] (zs_shorten1 (k := yn0 τ - 1) hC.1.1 (by omega)) rfl rfl ?_
  rintro _ μ1 ⟨rfl, f1, h1⟩
  have hT1 : zTf1 (yb0 τ) (yn0 τ - 1) μ1 := h1
  refine zq_go zt_X8_undo 1 [] 34 [(0, .ref 0), (1, .int (nI 0)), (2, .ref 1)] [.ref 0] μ1 rfl trivial ?_
  refine zq_call zt_X8_undo [.ref 0] [] (zs_textChanged μ1) rfl rfl ?_
  rintro _ μ2 ⟨rfl, f2, hc1, hc2, hc3, hc4⟩
  have f9 : zq_fr [0, 1, 2, 3, 4, 39, 46] μ0 μ2 := (f1.wk (by simp +contextual)).tr (f2.wk (by simp))
  have hc : ytc μ0 μ2 := ⟨hc1, hc2, fun i p q => by rw [hc3 i p q, f1.a (b := 0) (by decide)], hc4⟩
  have hT2 : zTf1 (yb0 τ) (yn0 τ - 1) μ2 := hT1.fr f2 (by decide)
  have hI := hC.tx0 f9 hc hT2
  refine zq_go zt_X8_undo 2 [] 41 [(0, .ref 0), (1, .int (nI 0)), (2, .ref 1)] [.int (μ2.1 1 3)] μ2 rfl trivial ?_
  rw [hT2.1.2.2.2.1]
  exact zq_retn zt_X8_undo rfl rfl (⟨rfl, hI, f9.wk (by simp +contextual [zSC])⟩)
set_option maxRecDepth 100000 in
set_option maxHeartbeats 400000 in
theorem zs_undo0_0 {τ : zTd} {S : zES} {H : zSH} {μ0 : zq_Me} (hl : yn0 τ = 0) (hC : zIc τ S H μ0) : zq_Wp zn_X8_undo 0 [(0, .ref 0), (1, .int (nI 0))] [] μ0 (zRc (.int (-3)) τ S H μ0) := by
  refine zq_go zt_X8_undo 2 [] 2 [(0, .ref 0), (1, .int (nI 0))] [.int (nI 0), .ref 0] μ0 rfl trivial ?_
  refine zq_call zt_X8_undo [.ref 0, .int (nI 0)] [] (zs_textOf_0 μ0) rfl rfl ?_
  rintro _ _ ⟨rfl, rfl⟩
  refine zq_go zt_X8_undo 3 [] 13 [(0, .ref 0), (1, .int (nI 0)), (2, .ref 1)] [] μ0 rfl trivial ?_
  refine zq_go zt_X8_undo 3 [] (if ¬ (μ0.1 1 3) = 0 then 23 else 20) [(0, .ref 0), (1, .int (nI 0)), (2, .ref 1)] [] μ0 rfl trivial ?_
  rw [hC.1.1.2.2.2.1]
  rw [if_neg (by rw [hl]; decide)]
  refine zq_go zt_X8_undo 1 [] 22 [(0, .ref 0), (1, .int (nI 0)), (2, .ref 1)] [.int (-3)] μ0 rfl trivial ?_
  exact zq_retn zt_X8_undo rfl rfl (⟨rfl, hC, zq_fr.rf⟩)
set_option maxRecDepth 100000 in
set_option maxHeartbeats 400000 in
theorem zs_fault_0 {τ : zTd} {S : zES} {H : zSH} {μ0 : zq_Me} (hC : zIc τ S H μ0) : zq_Wp zn_X8_fault 0 [(0, .ref 0), (1, .int (nI 0))] [] μ0 (zRc (.int (zdn (ztf (zok1 (yb0 τ)) 3 (yn0 τ)))) τ S H μ0) := by
  refine zq_go zt_X8_fault 2 [] 2 [(0, .ref 0), (1, .int (nI 0))] [.int (nI 0), .ref 0] μ0 rfl trivial ?_
  refine zq_call zt_X8_fault [.ref 0, .int (nI 0)] [] (zs_textOf_0 μ0) rfl rfl ?_
  rintro _ _ ⟨rfl, rfl⟩
  refine zq_go zt_X8_fault 3 [] 15 [(0, .ref 0), (1, .int (nI 0)), (2, .ref 1)] [] μ0 rfl trivial ?_
  refine zq_go zt_X8_fault 2 [] 19 [(0, .ref 0), (1, .int (nI 0)), (2, .ref 1)] [.int (μ0.1 1 4)] μ0 rfl trivial ?_
  rw [hC.1.2.2.1]
  exact zq_retn zt_X8_fault rfl rfl (⟨rfl, hC, zq_fr.rf⟩)
set_option maxRecDepth 100000 in
set_option maxHeartbeats 400000 in
theorem zs_faultm_0 {τ : zTd} {S : zES} {H : zSH} {μ0 : zq_Me} (hM : zIm τ S H μ0) : zq_Wp zn_X9_fault 0 [(0, .ref 50), (1, .int (nI 0))] [] μ0 (zRm' (.int (zdn (ztf (zok1 (yb0 τ)) 3 (yn0 τ)))) τ S H μ0) := by
  refine zq_go zt_X9_fault 1 [] 1 [(0, .ref 50), (1, .int (nI 0))] [.int (nI 0)] μ0 rfl trivial ?_
  refine zq_call zt_X9_fault [.int (nI 0)] [] (zs_isTextm (nI 0) μ0) rfl rfl ?_
  rintro _ _ ⟨rfl, rfl⟩
  refine zq_go zt_X9_fault 1 [] (if (zb (0 ≤ (nI 0) ∧ (nI 0) ≤ nI 1)) = 0 then 15 else 7) [(0, .ref 50), (1, .int (nI 0))] [] μ0 rfl trivial ?_
  rw [if_neg (zb_n (by decide))]
  refine zq_go zt_X9_fault 2 [] 9 [(0, .ref 50), (1, .int (nI 0))] [.int (nI 0), .ref 50] μ0 rfl trivial ?_
  refine zq_call zt_X9_fault [.ref 50, .int (nI 0)] [] (zs_faultOf (nI 0) hM.1.1 hM.1.2) rfl rfl ?_
  rintro _ ν1 ⟨rfl, hr⟩
  obtain ⟨n1, k1, o1, p1⟩ := hr.m hM
  refine zq_go zt_X9_fault 1 [] 17 [(0, .ref 50), (1, .int (nI 0))] [.int (zdn (ztf (zok1 (yb0 τ)) 3 (yn0 τ)))] ν1 rfl trivial ?_
  exact zq_retn zt_X9_fault rfl rfl (⟨rfl, n1, k1⟩)
set_option maxRecDepth 100000 in
set_option maxHeartbeats 400000 in
theorem zs_typem_0 {τ : zTd} {S : zES} {H : zSH} {μ0 : zq_Me} {x : Nat} (lx : x ≤ 255) (hl : yn0 τ < 35) (hM : zIm τ S H μ0) : zq_Wp zn_X9_type 0 [(0, .ref 50), (1, .int (nI 0)), (2, .int (nI x))] [] μ0 (zRm' (.int (nI (yn0 τ + 1))) ((yn0 τ + 1, (fun i => if i = yn0 τ then x else yb0 τ i)), τ.2) S H μ0) := by
  have hn9 : yn0 τ ≤ 35 := hM.1.1.1
  refine zq_go zt_X9_type 1 [] 1 [(0, .ref 50), (1, .int (nI 0)), (2, .int (nI x))] [.int (nI 0)] μ0 rfl trivial ?_
  refine zq_call zt_X9_type [.int (nI 0)] [] (zs_isTextm (nI 0) μ0) rfl rfl ?_
  rintro _ _ ⟨rfl, rfl⟩
  refine zq_go zt_X9_type 1 [] (if (zb (0 ≤ (nI 0) ∧ (nI 0) ≤ nI 1)) = 0 then 18 else 7) [(0, .ref 50), (1, .int (nI 0)), (2, .int (nI x))] [] μ0 rfl trivial ?_
  rw [if_neg (zb_n (by decide))]
  refine zq_go zt_X9_type 3 [] 12 [(0, .ref 50), (1, .int (nI 0)), (2, .int (nI x))] [.int (nI 255), .int (nI 0), .int (nI x)] μ0 rfl trivial ?_
  refine zq_call zt_X9_type [.int (nI x), .int (nI 0), .int (nI 255)] [] (zs_in (nI x) (nI 0) (nI 255) μ0) rfl rfl ?_
  rintro _ _ ⟨rfl, rfl⟩
  refine zq_go zt_X9_type 1 [] (if ¬ (zb (0 ≤ nI x ∧ nI x ≤ nI 255)) = 0 then 21 else 18) [(0, .ref 50), (1, .int (nI 0)), (2, .int (nI x))] [] μ0 rfl trivial ?_
  rw [if_pos (zb_n (yin (by omega) (by decide)))]
  refine zq_go zt_X9_type 6 [vp_in (nI 0) 2] (if ¬ (nI 0) = 0 then 36 else 31) [(0, .ref 50), (1, .int (nI 0)), (2, .int (nI x))] [.int (μ0.1 51 0)] μ0 rfl ⟨zn_in rfl (by decide) (by decide), trivial⟩ ?_
  rw [hM.1.1.2.2.2.1]
  rw [if_neg (by decide)]
  refine zq_go zt_X9_type 2 [] 38 [(0, .ref 50), (1, .int (nI 0)), (2, .int (nI x))] [.int (nI 35), .int (nI (yn0 τ))] μ0 rfl trivial ?_
  refine zq_go zt_X9_type 1 [] (if ¬ (nI (yn0 τ)) = (nI 35) then 44 else 41) [(0, .ref 50), (1, .int (nI 0)), (2, .int (nI x))] [] μ0 rfl trivial ?_
  rw [if_pos (by rw [zn_eq (by omega) (by omega)]; omega)]
  refine zq_go zt_X9_type 20 [vp_in (nI 0) 2, vp_in (((nI 35) * (nI 0)) + (μ0.1 51 0)) 70, vp_in (nI 0) 2, vp_in (nI 0) 2] 71 [(0, .ref 50), (1, .int (nI 0)), (2, .int (nI x))] [] (zq_u1 (zq_u1 μ0 52 ((((nI 35) * (nI 0)) + (μ0.1 51 0)).toNatClampNeg) (nI x)) 51 0 ((μ0.1 51 0) + (nI 1))) rfl ⟨zn_in rfl (by decide) (by decide), ⟨zn_in (k := (35 * 0) + (yn0 τ)) (by rw [zn_mul 35 0, hM.1.1.2.2.2.1, zn_add (35 * 0) (yn0 τ)]) (by omega) (by decide), ⟨zn_in rfl (by decide) (by decide), ⟨zn_in rfl (by decide) (by decide), trivial⟩⟩⟩⟩ ?_
  rw [zn_mul 35 0, hM.1.1.2.2.2.1, zn_add (35 * 0) (yn0 τ), zn_cl (n := (35 * 0) + (yn0 τ)) (by omega), zn_add (yn0 τ) 1]
  obtain ⟨μ1, hμ1⟩ : ∃ k9 : zq_Me, k9 = (zq_u1 (zq_u1 μ0 52 ((35 * 0) + (yn0 τ)) (nI x)) 51 0 (nI ((yn0 τ) + 1))) := ⟨_, rfl⟩
  rw [← hμ1]
  have f1 : zq_fr [51, 52] μ0 μ1 := by rw [hμ1]; exact (zq_fr.rf.u1 (by simp)).u1 (by simp)
  have s51 : ∀ i, i ≠ 0 → μ1.1 51 i = μ0.1 51 i := fun i hi => by rw [hμ1, zq_u1_o2 hi, zq_u1_ne (by decide)]
  have s52 : ∀ i, i ≠ 35 * 0 + (yn0 τ) → μ1.1 52 i = μ0.1 52 i := fun i hi => by rw [hμ1, zq_u1_ne (by decide), zq_u1_o2 hi]
  have hz : μ1.1 51 0 = nI (yn0 τ + 1) := by rw [hμ1, zq_u1_s]
  have hy : ∀ i, i < yn0 τ + 1 → μ1.1 52 (35 * 0 + i) = nI ((fun i => if i = yn0 τ then x else yb0 τ i) i) ∧ (fun i => if i = yn0 τ then x else yb0 τ i) i < 256 := fun i hi => by
    by_cases q : i = yn0 τ
    · rw [show (fun i => if i = yn0 τ then x else yb0 τ i) i = x from if_pos q, q, hμ1, zq_u1_ne (by decide), zq_u1_s]
      exact ⟨rfl, by omega⟩
    · rw [show (fun i => if i = yn0 τ then x else yb0 τ i) i = yb0 τ i from if_neg q, s52 _ (by omega)]
      exact hM.1.1.2.2.2.2 i (by omega)
  have g1 : zTm 0 35 (fun i => if i = yn0 τ then x else yb0 τ i) (yn0 τ + 1) μ1 := ⟨by omega, by decide, by decide, hz, hy⟩
  have g2 : zTm 1 31 (yb1 τ) (yn1 τ) μ1 := ⟨hM.1.2.1, by decide, by decide, by rw [s51 _ (by decide)]; exact hM.1.2.2.2.2.1, fun i hi => by have h8 := hM.1.2.1; rw [s52 _ (by omega)]; exact hM.1.2.2.2.2.2 i hi⟩
  have hI : zIm ((yn0 τ + 1, (fun i => if i = yn0 τ then x else yb0 τ i)), τ.2) S H μ1 := hM.tx f1 g1 g2 rfl
  refine zq_go zt_X9_type 4 [vp_in (nI 0) 2] 77 [(0, .ref 50), (1, .int (nI 0)), (2, .int (nI x))] [.int (μ1.1 51 0)] μ1 rfl ⟨zn_in rfl (by decide) (by decide), trivial⟩ ?_
  rw [hz]
  exact zq_retn zt_X9_type rfl rfl (⟨rfl, hI, f1.wk (by simp +contextual [zSM])⟩)
set_option maxRecDepth 100000 in
set_option maxHeartbeats 400000 in
theorem zs_typeFm_0 {τ : zTd} {S : zES} {H : zSH} {μ0 : zq_Me} {x : Nat} (lx : x ≤ 255) (hl : yn0 τ = 35) (hM : zIm τ S H μ0) : zq_Wp zn_X9_type 0 [(0, .ref 50), (1, .int (nI 0)), (2, .int (nI x))] [] μ0 (zRm' (.int (-4)) τ S H μ0) := by
  refine zq_go zt_X9_type 1 [] 1 [(0, .ref 50), (1, .int (nI 0)), (2, .int (nI x))] [.int (nI 0)] μ0 rfl trivial ?_
  refine zq_call zt_X9_type [.int (nI 0)] [] (zs_isTextm (nI 0) μ0) rfl rfl ?_
  rintro _ _ ⟨rfl, rfl⟩
  refine zq_go zt_X9_type 1 [] (if (zb (0 ≤ (nI 0) ∧ (nI 0) ≤ nI 1)) = 0 then 18 else 7) [(0, .ref 50), (1, .int (nI 0)), (2, .int (nI x))] [] μ0 rfl trivial ?_
  rw [if_neg (zb_n (by decide))]
  refine zq_go zt_X9_type 3 [] 12 [(0, .ref 50), (1, .int (nI 0)), (2, .int (nI x))] [.int (nI 255), .int (nI 0), .int (nI x)] μ0 rfl trivial ?_
  refine zq_call zt_X9_type [.int (nI x), .int (nI 0), .int (nI 255)] [] (zs_in (nI x) (nI 0) (nI 255) μ0) rfl rfl ?_
  rintro _ _ ⟨rfl, rfl⟩
  refine zq_go zt_X9_type 1 [] (if ¬ (zb (0 ≤ nI x ∧ nI x ≤ nI 255)) = 0 then 21 else 18) [(0, .ref 50), (1, .int (nI 0)), (2, .int (nI x))] [] μ0 rfl trivial ?_
  rw [if_pos (zb_n (yin (by omega) (by decide)))]
  refine zq_go zt_X9_type 6 [vp_in (nI 0) 2] (if ¬ (nI 0) = 0 then 36 else 31) [(0, .ref 50), (1, .int (nI 0)), (2, .int (nI x))] [.int (μ0.1 51 0)] μ0 rfl ⟨zn_in rfl (by decide) (by decide), trivial⟩ ?_
  rw [hM.1.1.2.2.2.1]
  rw [if_neg (by decide)]
  refine zq_go zt_X9_type 2 [] 38 [(0, .ref 50), (1, .int (nI 0)), (2, .int (nI x))] [.int (nI 35), .int (nI (yn0 τ))] μ0 rfl trivial ?_
  refine zq_go zt_X9_type 1 [] (if ¬ (nI (yn0 τ)) = (nI 35) then 44 else 41) [(0, .ref 50), (1, .int (nI 0)), (2, .int (nI x))] [] μ0 rfl trivial ?_
  rw [if_neg (fun q => q (by rw [hl]))]
  refine zq_go zt_X9_type 1 [] 43 [(0, .ref 50), (1, .int (nI 0)), (2, .int (nI x))] [.int (-4)] μ0 rfl trivial ?_
  exact zq_retn zt_X9_type rfl rfl (⟨rfl, hM, zq_fr.rf⟩)
set_option maxRecDepth 100000 in
set_option maxHeartbeats 400000 in
theorem zs_wipem_0 {τ : zTd} {S : zES} {H : zSH} {μ0 : zq_Me} (hM : zIm τ S H μ0) : zq_Wp zn_X9_wipe 0 [(0, .ref 50), (1, .int (nI 0))] [] μ0 (zRm' (.int (nI (yn0 τ))) ((0, yb0 τ), τ.2) S H μ0) := by
  have hn9 : yn0 τ ≤ 35 := hM.1.1.1
  refine zq_go zt_X9_wipe 1 [] 1 [(0, .ref 50), (1, .int (nI 0))] [.int (nI 0)] μ0 rfl trivial ?_
  refine zq_call zt_X9_wipe [.int (nI 0)] [] (zs_isTextm (nI 0) μ0) rfl rfl ?_
  rintro _ _ ⟨rfl, rfl⟩
  refine zq_go zt_X9_wipe 1 [] (if ¬ (zb (0 ≤ (nI 0) ∧ (nI 0) ≤ nI 1)) = 0 then 10 else 7) [(0, .ref 50), (1, .int (nI 0))] [] μ0 rfl trivial ?_
  rw [if_pos (zb_n (by decide))]
  refine zq_go zt_X9_wipe 10 [vp_in (nI 0) 2, vp_in (nI 0) 2] 24 [(0, .ref 50), (1, .int (nI 0)), (2, .int (μ0.1 51 0))] [] (zq_u1 μ0 51 0 (nI 0)) rfl ⟨zn_in rfl (by decide) (by decide), ⟨zn_in rfl (by decide) (by decide), trivial⟩⟩ ?_
  rw [hM.1.1.2.2.2.1]
  obtain ⟨μ1, hμ1⟩ : ∃ k9 : zq_Me, k9 = (zq_u1 μ0 51 0 (nI 0)) := ⟨_, rfl⟩
  rw [← hμ1]
  have f1 : zq_fr [51, 52] μ0 μ1 := by rw [hμ1]; exact zq_fr.rf.u1 (by simp)
  have s51 : ∀ i, i ≠ 0 → μ1.1 51 i = μ0.1 51 i := fun i hi => by rw [hμ1, zq_u1_o2 hi]
  have s52 : ∀ i : Nat, i = i → μ1.1 52 i = μ0.1 52 i := fun i _ => by rw [hμ1, zq_u1_ne (by decide)]
  have hz : μ1.1 51 0 = nI (0) := by rw [hμ1, zq_u1_s]
  have hy : ∀ i, i < 0 → μ1.1 52 (35 * 0 + i) = nI (yb0 τ i) ∧ yb0 τ i < 256 := fun i hi => by
    rw [s52 _ rfl]
    exact hM.1.1.2.2.2.2 i (by omega)
  have g1 : zTm 0 35 (yb0 τ) 0 μ1 := ⟨by omega, by decide, by decide, hz, hy⟩
  have g2 : zTm 1 31 (yb1 τ) (yn1 τ) μ1 := ⟨hM.1.2.1, by decide, by decide, by rw [s51 _ (by decide)]; exact hM.1.2.2.2.2.1, fun i hi => by have h8 := hM.1.2.1; rw [s52 _ (by omega)]; exact hM.1.2.2.2.2.2 i hi⟩
  have hI : zIm ((0, yb0 τ), τ.2) S H μ1 := hM.tx f1 g1 g2 rfl
  refine zq_go zt_X9_wipe 1 [] 25 [(0, .ref 50), (1, .int (nI 0)), (2, .int (nI (yn0 τ)))] [.int (nI (yn0 τ))] μ1 rfl trivial ?_
  exact zq_retn zt_X9_wipe rfl rfl (⟨rfl, hI, f1.wk (by simp +contextual [zSM])⟩)
set_option maxRecDepth 100000 in
set_option maxHeartbeats 400000 in
theorem zs_undom_0 {τ : zTd} {S : zES} {H : zSH} {μ0 : zq_Me} (hl : 0 < yn0 τ) (hM : zIm τ S H μ0) : zq_Wp zn_X9_undo 0 [(0, .ref 50), (1, .int (nI 0))] [] μ0 (zRm' (.int (nI (yn0 τ - 1))) ((yn0 τ - 1, yb0 τ), τ.2) S H μ0) := by
  have hn9 : yn0 τ ≤ 35 := hM.1.1.1
  refine zq_go zt_X9_undo 1 [] 1 [(0, .ref 50), (1, .int (nI 0))] [.int (nI 0)] μ0 rfl trivial ?_
  refine zq_call zt_X9_undo [.int (nI 0)] [] (zs_isTextm (nI 0) μ0) rfl rfl ?_
  rintro _ _ ⟨rfl, rfl⟩
  refine zq_go zt_X9_undo 1 [] (if ¬ (zb (0 ≤ (nI 0) ∧ (nI 0) ≤ nI 1)) = 0 then 10 else 7) [(0, .ref 50), (1, .int (nI 0))] [] μ0 rfl trivial ?_
  rw [if_pos (zb_n (by decide))]
  refine zq_go zt_X9_undo 5 [vp_in (nI 0) 2] (if ¬ (μ0.1 51 0) = 0 then 22 else 19) [(0, .ref 50), (1, .int (nI 0))] [] μ0 rfl ⟨zn_in rfl (by decide) (by decide), trivial⟩ ?_
  rw [hM.1.1.2.2.2.1]
  rw [if_pos (by rw [show (0 : Int32) = nI 0 from rfl, zn_eq (by omega) (by omega)]; omega)]
  refine zq_go zt_X9_undo 8 [vp_in (nI 0) 2, vp_in (nI 0) 2] 32 [(0, .ref 50), (1, .int (nI 0))] [] (zq_u1 μ0 51 0 ((μ0.1 51 0) - (nI 1))) rfl ⟨zn_in rfl (by decide) (by decide), ⟨zn_in rfl (by decide) (by decide), trivial⟩⟩ ?_
  rw [hM.1.1.2.2.2.1, zn_sub (show 1 ≤ (yn0 τ) by omega)]
  obtain ⟨μ1, hμ1⟩ : ∃ k9 : zq_Me, k9 = (zq_u1 μ0 51 0 (nI ((yn0 τ) - 1))) := ⟨_, rfl⟩
  rw [← hμ1]
  have f1 : zq_fr [51, 52] μ0 μ1 := by rw [hμ1]; exact zq_fr.rf.u1 (by simp)
  have s51 : ∀ i, i ≠ 0 → μ1.1 51 i = μ0.1 51 i := fun i hi => by rw [hμ1, zq_u1_o2 hi]
  have s52 : ∀ i : Nat, i = i → μ1.1 52 i = μ0.1 52 i := fun i _ => by rw [hμ1, zq_u1_ne (by decide)]
  have hz : μ1.1 51 0 = nI (yn0 τ - 1) := by rw [hμ1, zq_u1_s]
  have hy : ∀ i, i < yn0 τ - 1 → μ1.1 52 (35 * 0 + i) = nI (yb0 τ i) ∧ yb0 τ i < 256 := fun i hi => by
    rw [s52 _ rfl]
    exact hM.1.1.2.2.2.2 i (by omega)
  have g1 : zTm 0 35 (yb0 τ) (yn0 τ - 1) μ1 := ⟨by omega, by decide, by decide, hz, hy⟩
  have g2 : zTm 1 31 (yb1 τ) (yn1 τ) μ1 := ⟨hM.1.2.1, by decide, by decide, by rw [s51 _ (by decide)]; exact hM.1.2.2.2.2.1, fun i hi => by have h8 := hM.1.2.1; rw [s52 _ (by omega)]; exact hM.1.2.2.2.2.2 i hi⟩
  have hI : zIm ((yn0 τ - 1, yb0 τ), τ.2) S H μ1 := hM.tx f1 g1 g2 rfl
  refine zq_go zt_X9_undo 4 [vp_in (nI 0) 2] 38 [(0, .ref 50), (1, .int (nI 0))] [.int (μ1.1 51 0)] μ1 rfl ⟨zn_in rfl (by decide) (by decide), trivial⟩ ?_
  rw [hz]
  exact zq_retn zt_X9_undo rfl rfl (⟨rfl, hI, f1.wk (by simp +contextual [zSM])⟩)
set_option maxRecDepth 100000 in
set_option maxHeartbeats 400000 in
theorem zs_undo0m_0 {τ : zTd} {S : zES} {H : zSH} {μ0 : zq_Me} (hl : yn0 τ = 0) (hM : zIm τ S H μ0) : zq_Wp zn_X9_undo 0 [(0, .ref 50), (1, .int (nI 0))] [] μ0 (zRm' (.int (-3)) τ S H μ0) := by
  refine zq_go zt_X9_undo 1 [] 1 [(0, .ref 50), (1, .int (nI 0))] [.int (nI 0)] μ0 rfl trivial ?_
  refine zq_call zt_X9_undo [.int (nI 0)] [] (zs_isTextm (nI 0) μ0) rfl rfl ?_
  rintro _ _ ⟨rfl, rfl⟩
  refine zq_go zt_X9_undo 1 [] (if ¬ (zb (0 ≤ (nI 0) ∧ (nI 0) ≤ nI 1)) = 0 then 10 else 7) [(0, .ref 50), (1, .int (nI 0))] [] μ0 rfl trivial ?_
  rw [if_pos (zb_n (by decide))]
  refine zq_go zt_X9_undo 5 [vp_in (nI 0) 2] (if ¬ (μ0.1 51 0) = 0 then 22 else 19) [(0, .ref 50), (1, .int (nI 0))] [] μ0 rfl ⟨zn_in rfl (by decide) (by decide), trivial⟩ ?_
  rw [hM.1.1.2.2.2.1]
  rw [if_neg (by rw [hl]; decide)]
  refine zq_go zt_X9_undo 1 [] 21 [(0, .ref 50), (1, .int (nI 0))] [.int (-3)] μ0 rfl trivial ?_
  exact zq_retn zt_X9_undo rfl rfl (⟨rfl, hM, zq_fr.rf⟩)
set_option maxRecDepth 100000 in
set_option maxHeartbeats 400000 in
theorem zs_type_1 {τ : zTd} {S : zES} {H : zSH} {μ0 : zq_Me} {x : Nat} (lx : x ≤ 255) (hl : yn1 τ < 31) (hC : zIc τ S H μ0) : zq_Wp zn_X8_type 0 [(0, .ref 0), (1, .int (nI 1)), (2, .int (nI x))] [] μ0 (zRc (.int (nI (yn1 τ + 1))) (τ.1, (yn1 τ + 1, (fun i => if i = yn1 τ then x else yb1 τ i)), τ.2.2) S H μ0) := by
  refine zq_go zt_X8_type 2 [] 2 [(0, .ref 0), (1, .int (nI 1)), (2, .int (nI x))] [.int (nI 1), .ref 0] μ0 rfl trivial ?_
  refine zq_call zt_X8_type [.ref 0, .int (nI 1)] [] (zs_textOf_1 μ0) rfl rfl ?_
  rintro _ _ ⟨rfl, rfl⟩
  refine zq_go zt_X8_type 3 [] 10 [(0, .ref 0), (1, .int (nI 1)), (2, .int (nI x)), (3, .ref 6)] [] μ0 rfl trivial ?_
  refine zq_go zt_X8_type 3 [] 15 [(0, .ref 0), (1, .int (nI 1)), (2, .int (nI x)), (3, .ref 6)] [.int (nI 255), .int (nI 0), .int (nI x)] μ0 rfl trivial ?_
  refine zq_call zt_X8_type [.int (nI x), .int (nI 0), .int (nI 255)] [] (zs_within (nI x) (nI 0) (nI 255) μ0) rfl rfl ?_
  rintro _ _ ⟨rfl, rfl⟩
  refine zq_go zt_X8_type 1 [] (if ¬ (zb (0 ≤ nI x ∧ nI x ≤ nI 255)) = 0 then 24 else 21) [(0, .ref 0), (1, .int (nI 1)), (2, .int (nI x)), (3, .ref 6)] [] μ0 rfl trivial ?_
  rw [if_pos (zb_n (yin (by omega) (by decide)))]
  refine zq_go zt_X8_type 1 [] 25 [(0, .ref 0), (1, .int (nI 1)), (2, .int (nI x)), (3, .ref 6)] [.ref 6] μ0 rfl trivial ?_
  refine zq_call zt_X8_type [.ref 6] [] (zs_isFull6 hC.1.2.1) rfl rfl ?_
  rintro _ _ ⟨rfl, rfl⟩
  refine zq_go zt_X8_type 1 [] (if (zB (decide (yn1 τ = 31))) = 0 then 34 else 31) [(0, .ref 0), (1, .int (nI 1)), (2, .int (nI x)), (3, .ref 6)] [] μ0 rfl trivial ?_
  rw [if_pos (by rw [decide_eq_false (by omega)]; rfl)]
  refine zq_go zt_X8_type 2 [] 36 [(0, .ref 0), (1, .int (nI 1)), (2, .int (nI x)), (3, .ref 6)] [.int (nI x), .ref 6] μ0 rfl trivial ?_
  refine zq_call zt_X8_type [.ref 6, .int (nI x)] [] (zs_add6 (x := x) hC.1.2.1 hl (by omega)) rfl rfl ?_
  rintro _ μ1 ⟨rfl, f1, h1⟩
  have hT1 : zTf6 (fun i => if i = yn1 τ then x else yb1 τ i) (yn1 τ + 1) μ1 := h1
  refine zq_go zt_X8_type 1 [] 40 [(0, .ref 0), (1, .int (nI 1)), (2, .int (nI x)), (3, .ref 6)] [.ref 0] μ1 rfl trivial ?_
  refine zq_call zt_X8_type [.ref 0] [] (zs_textChanged μ1) rfl rfl ?_
  rintro _ μ2 ⟨rfl, f2, hc1, hc2, hc3, hc4⟩
  have f9 : zq_fr [0, 6, 7, 8, 9, 10, 39, 46] μ0 μ2 := (f1.wk (by simp +contextual)).tr (f2.wk (by simp))
  have hc : ytc μ0 μ2 := ⟨hc1, hc2, fun i p q => by rw [hc3 i p q, f1.a (b := 0) (by decide)], hc4⟩
  have hT2 : zTf6 (fun i => if i = yn1 τ then x else yb1 τ i) (yn1 τ + 1) μ2 := hT1.fr f2 (by decide)
  have hI := hC.tx1 f9 hc hT2
  refine zq_go zt_X8_type 2 [] 47 [(0, .ref 0), (1, .int (nI 1)), (2, .int (nI x)), (3, .ref 6)] [.int (μ2.1 6 3)] μ2 rfl trivial ?_
  rw [hT2.1.2.2.2.1]
  exact zq_retn zt_X8_type rfl rfl (⟨rfl, hI, f9.wk (by simp +contextual [zSC])⟩)
set_option maxRecDepth 100000 in
set_option maxHeartbeats 400000 in
theorem zs_typeF_1 {τ : zTd} {S : zES} {H : zSH} {μ0 : zq_Me} {x : Nat} (lx : x ≤ 255) (hl : yn1 τ = 31) (hC : zIc τ S H μ0) : zq_Wp zn_X8_type 0 [(0, .ref 0), (1, .int (nI 1)), (2, .int (nI x))] [] μ0 (zRc (.int (-4)) τ S H μ0) := by
  refine zq_go zt_X8_type 2 [] 2 [(0, .ref 0), (1, .int (nI 1)), (2, .int (nI x))] [.int (nI 1), .ref 0] μ0 rfl trivial ?_
  refine zq_call zt_X8_type [.ref 0, .int (nI 1)] [] (zs_textOf_1 μ0) rfl rfl ?_
  rintro _ _ ⟨rfl, rfl⟩
  refine zq_go zt_X8_type 3 [] 10 [(0, .ref 0), (1, .int (nI 1)), (2, .int (nI x)), (3, .ref 6)] [] μ0 rfl trivial ?_
  refine zq_go zt_X8_type 3 [] 15 [(0, .ref 0), (1, .int (nI 1)), (2, .int (nI x)), (3, .ref 6)] [.int (nI 255), .int (nI 0), .int (nI x)] μ0 rfl trivial ?_
  refine zq_call zt_X8_type [.int (nI x), .int (nI 0), .int (nI 255)] [] (zs_within (nI x) (nI 0) (nI 255) μ0) rfl rfl ?_
  rintro _ _ ⟨rfl, rfl⟩
  refine zq_go zt_X8_type 1 [] (if ¬ (zb (0 ≤ nI x ∧ nI x ≤ nI 255)) = 0 then 24 else 21) [(0, .ref 0), (1, .int (nI 1)), (2, .int (nI x)), (3, .ref 6)] [] μ0 rfl trivial ?_
  rw [if_pos (zb_n (yin (by omega) (by decide)))]
  refine zq_go zt_X8_type 1 [] 25 [(0, .ref 0), (1, .int (nI 1)), (2, .int (nI x)), (3, .ref 6)] [.ref 6] μ0 rfl trivial ?_
  refine zq_call zt_X8_type [.ref 6] [] (zs_isFull6 hC.1.2.1) rfl rfl ?_
  rintro _ _ ⟨rfl, rfl⟩
  refine zq_go zt_X8_type 1 [] (if (zB (decide (yn1 τ = 31))) = 0 then 34 else 31) [(0, .ref 0), (1, .int (nI 1)), (2, .int (nI x)), (3, .ref 6)] [] μ0 rfl trivial ?_
  rw [if_neg (by rw [decide_eq_true hl]; decide)]
  refine zq_go zt_X8_type 1 [] 33 [(0, .ref 0), (1, .int (nI 1)), (2, .int (nI x)), (3, .ref 6)] [.int (-4)] μ0 rfl trivial ?_
  exact zq_retn zt_X8_type rfl rfl (⟨rfl, hC, zq_fr.rf⟩)
set_option maxRecDepth 100000 in
set_option maxHeartbeats 400000 in
theorem zs_typeB_1 {τ : zTd} {S : zES} {H : zSH} {μ0 : zq_Me} (v2 : Int32) (hg : ¬ (0 ≤ v2 ∧ v2 ≤ nI 255)) (hC : zIc τ S H μ0) : zq_Wp zn_X8_type 0 [(0, .ref 0), (1, .int (nI 1)), (2, .int v2)] [] μ0 (zRc (.int (-2)) τ S H μ0) := by
  refine zq_go zt_X8_type 2 [] 2 [(0, .ref 0), (1, .int (nI 1)), (2, .int v2)] [.int (nI 1), .ref 0] μ0 rfl trivial ?_
  refine zq_call zt_X8_type [.ref 0, .int (nI 1)] [] (zs_textOf_1 μ0) rfl rfl ?_
  rintro _ _ ⟨rfl, rfl⟩
  refine zq_go zt_X8_type 3 [] 10 [(0, .ref 0), (1, .int (nI 1)), (2, .int v2), (3, .ref 6)] [] μ0 rfl trivial ?_
  refine zq_go zt_X8_type 3 [] 15 [(0, .ref 0), (1, .int (nI 1)), (2, .int v2), (3, .ref 6)] [.int (nI 255), .int (nI 0), .int v2] μ0 rfl trivial ?_
  refine zq_call zt_X8_type [.int v2, .int (nI 0), .int (nI 255)] [] (zs_within v2 (nI 0) (nI 255) μ0) rfl rfl ?_
  rintro _ _ ⟨rfl, rfl⟩
  refine zq_go zt_X8_type 1 [] (if ¬ (zb (0 ≤ v2 ∧ v2 ≤ nI 255)) = 0 then 24 else 21) [(0, .ref 0), (1, .int (nI 1)), (2, .int v2), (3, .ref 6)] [] μ0 rfl trivial ?_
  rw [if_neg (fun q => q (zb_f hg))]
  refine zq_go zt_X8_type 1 [] 23 [(0, .ref 0), (1, .int (nI 1)), (2, .int v2), (3, .ref 6)] [.int (-2)] μ0 rfl trivial ?_
  exact zq_retn zt_X8_type rfl rfl (⟨rfl, hC, zq_fr.rf⟩)
set_option maxRecDepth 100000 in
set_option maxHeartbeats 400000 in
theorem zs_wipe_1 {τ : zTd} {S : zES} {H : zSH} {μ0 : zq_Me} (hl : 0 < yn1 τ) (hC : zIc τ S H μ0) : zq_Wp zn_X8_wipe 0 [(0, .ref 0), (1, .int (nI 1))] [] μ0 (zRc (.int (nI (yn1 τ))) (τ.1, (0, yb1 τ), τ.2.2) S H μ0) := by
  refine zq_go zt_X8_wipe 2 [] 2 [(0, .ref 0), (1, .int (nI 1))] [.int (nI 1), .ref 0] μ0 rfl trivial ?_
  refine zq_call zt_X8_wipe [.ref 0, .int (nI 1)] [] (zs_textOf_1 μ0) rfl rfl ?_
  rintro _ _ ⟨rfl, rfl⟩
  refine zq_go zt_X8_wipe 3 [] 13 [(0, .ref 0), (1, .int (nI 1)), (2, .ref 6)] [] μ0 rfl trivial ?_
  refine zq_go zt_X8_wipe 5 [] 20 [(0, .ref 0), (1, .int (nI 1)), (2, .ref 6), (3, .int (μ0.1 6 3))] [.int (nI 0), .ref 6] μ0 rfl trivial ?_
  rw [hC.1.2.1.2.2.2.1]
  refine zq_call zt_X8_wipe [.ref 6, .int (nI 0)] [] (zs_shorten6 hC.1.2.1 hl) rfl rfl ?_
  rintro _ μ1 ⟨rfl, f1, h1⟩
  have hT1 : zTf6 (yb1 τ) 0 μ1 := h1
  refine zq_go zt_X8_wipe 1 [] 24 [(0, .ref 0), (1, .int (nI 1)), (2, .ref 6), (3, .int (nI (yn1 τ)))] [.ref 0] μ1 rfl trivial ?_
  refine zq_call zt_X8_wipe [.ref 0] [] (zs_textChanged μ1) rfl rfl ?_
  rintro _ μ2 ⟨rfl, f2, hc1, hc2, hc3, hc4⟩
  have f9 : zq_fr [0, 6, 7, 8, 9, 10, 39, 46] μ0 μ2 := (f1.wk (by simp +contextual)).tr (f2.wk (by simp))
  have hc : ytc μ0 μ2 := ⟨hc1, hc2, fun i p q => by rw [hc3 i p q, f1.a (b := 0) (by decide)], hc4⟩
  have hT2 : zTf6 (yb1 τ) 0 μ2 := hT1.fr f2 (by decide)
  have hI := hC.tx1 f9 hc hT2
  refine zq_go zt_X8_wipe 1 [] 28 [(0, .ref 0), (1, .int (nI 1)), (2, .ref 6), (3, .int (nI (yn1 τ)))] [.int (nI (yn1 τ))] μ2 rfl trivial ?_
  exact zq_retn zt_X8_wipe rfl rfl (⟨rfl, hI, f9.wk (by simp +contextual [zSC])⟩)
set_option maxRecDepth 100000 in
set_option maxHeartbeats 400000 in
theorem zs_wipe0_1 {τ : zTd} {S : zES} {H : zSH} {μ0 : zq_Me} (hl : yn1 τ = 0) (hC : zIc τ S H μ0) : zq_Wp zn_X8_wipe 0 [(0, .ref 0), (1, .int (nI 1))] [] μ0 (zRc (.int (nI (yn1 τ))) (τ.1, (0, yb1 τ), τ.2.2) S H μ0) := by
  refine zq_go zt_X8_wipe 2 [] 2 [(0, .ref 0), (1, .int (nI 1))] [.int (nI 1), .ref 0] μ0 rfl trivial ?_
  refine zq_call zt_X8_wipe [.ref 0, .int (nI 1)] [] (zs_textOf_1 μ0) rfl rfl ?_
  rintro _ _ ⟨rfl, rfl⟩
  refine zq_go zt_X8_wipe 3 [] 13 [(0, .ref 0), (1, .int (nI 1)), (2, .ref 6)] [] μ0 rfl trivial ?_
  refine zq_go zt_X8_wipe 5 [] 20 [(0, .ref 0), (1, .int (nI 1)), (2, .ref 6), (3, .int (μ0.1 6 3))] [.int (nI 0), .ref 6] μ0 rfl trivial ?_
  rw [hC.1.2.1.2.2.2.1]
  refine zq_call zt_X8_wipe [.ref 6, .int (nI 0)] [] (zs_shorten6_0 hC.1.2.1 (k := 0) (by decide) (by omega)) rfl rfl ?_
  rintro _ μ1 ⟨rfl, e1⟩
  have f1 : zq_fr [6] μ0 μ1 := by rw [e1]; exact zq_fr.rf
  have hT1 : zTf6 (yb1 τ) 0 μ1 := by have h9 := hC.tf6; rw [hl] at h9; rw [e1]; exact h9
  refine zq_go zt_X8_wipe 1 [] 24 [(0, .ref 0), (1, .int (nI 1)), (2, .ref 6), (3, .int (nI (yn1 τ)))] [.ref 0] μ1 rfl trivial ?_
  refine zq_call zt_X8_wipe [.ref 0] [] (zs_textChanged μ1) rfl rfl ?_
  rintro _ μ2 ⟨rfl, f2, hc1, hc2, hc3, hc4⟩
  have f9 : zq_fr [0, 6, 7, 8, 9, 10, 39, 46] μ0 μ2 := (f1.wk (by simp +contextual)).tr (f2.wk (by simp))
  have hc : ytc μ0 μ2 := ⟨hc1, hc2, fun i p q => by rw [hc3 i p q, f1.a (b := 0) (by decide)], hc4⟩
  have hT2 : zTf6 (yb1 τ) 0 μ2 := hT1.fr f2 (by decide)
  have hI := hC.tx1 f9 hc hT2
  refine zq_go zt_X8_wipe 1 [] 28 [(0, .ref 0), (1, .int (nI 1)), (2, .ref 6), (3, .int (nI (yn1 τ)))] [.int (nI (yn1 τ))] μ2 rfl trivial ?_
  exact zq_retn zt_X8_wipe rfl rfl (⟨rfl, hI, f9.wk (by simp +contextual [zSC])⟩)
set_option maxRecDepth 100000 in
set_option maxHeartbeats 400000 in
theorem zs_undo_1 {τ : zTd} {S : zES} {H : zSH} {μ0 : zq_Me} (hl : 0 < yn1 τ) (hC : zIc τ S H μ0) : zq_Wp zn_X8_undo 0 [(0, .ref 0), (1, .int (nI 1))] [] μ0 (zRc (.int (nI (yn1 τ - 1))) (τ.1, (yn1 τ - 1, yb1 τ), τ.2.2) S H μ0) := by
  refine zq_go zt_X8_undo 2 [] 2 [(0, .ref 0), (1, .int (nI 1))] [.int (nI 1), .ref 0] μ0 rfl trivial ?_
  refine zq_call zt_X8_undo [.ref 0, .int (nI 1)] [] (zs_textOf_1 μ0) rfl rfl ?_
  rintro _ _ ⟨rfl, rfl⟩
  have hn9 : yn1 τ ≤ 31 := hC.1.2.1.1
  refine zq_go zt_X8_undo 3 [] 13 [(0, .ref 0), (1, .int (nI 1)), (2, .ref 6)] [] μ0 rfl trivial ?_
  refine zq_go zt_X8_undo 3 [] (if ¬ (μ0.1 6 3) = 0 then 23 else 20) [(0, .ref 0), (1, .int (nI 1)), (2, .ref 6)] [] μ0 rfl trivial ?_
  rw [hC.1.2.1.2.2.2.1]
  rw [if_pos (by rw [show (0 : Int32) = nI 0 from rfl, zn_eq (by omega) (by omega)]; omega)]
  refine zq_go zt_X8_undo 5 [] 30 [(0, .ref 0), (1, .int (nI 1)), (2, .ref 6)] [.int ((μ0.1 6 3) - (nI 1)), .ref 6] μ0 rfl trivial ?_
  rw [hC.1.2.1.2.2.2.1, zn_sub (show 1 ≤ (yn1 τ) by omega)]
  refine zq_call zt_X8_undo [.ref 6, .int (nI ((yn1 τ) - 1))] [] (zs_shorten6 (k := yn1 τ - 1) hC.1.2.1 (by omega)) rfl rfl ?_
  rintro _ μ1 ⟨rfl, f1, h1⟩
  have hT1 : zTf6 (yb1 τ) (yn1 τ - 1) μ1 := h1
  refine zq_go zt_X8_undo 1 [] 34 [(0, .ref 0), (1, .int (nI 1)), (2, .ref 6)] [.ref 0] μ1 rfl trivial ?_
  refine zq_call zt_X8_undo [.ref 0] [] (zs_textChanged μ1) rfl rfl ?_
  rintro _ μ2 ⟨rfl, f2, hc1, hc2, hc3, hc4⟩
  have f9 : zq_fr [0, 6, 7, 8, 9, 10, 39, 46] μ0 μ2 := (f1.wk (by simp +contextual)).tr (f2.wk (by simp))
  have hc : ytc μ0 μ2 := ⟨hc1, hc2, fun i p q => by rw [hc3 i p q, f1.a (b := 0) (by decide)], hc4⟩
  have hT2 : zTf6 (yb1 τ) (yn1 τ - 1) μ2 := hT1.fr f2 (by decide)
  have hI := hC.tx1 f9 hc hT2
  refine zq_go zt_X8_undo 2 [] 41 [(0, .ref 0), (1, .int (nI 1)), (2, .ref 6)] [.int (μ2.1 6 3)] μ2 rfl trivial ?_
  rw [hT2.1.2.2.2.1]
  exact zq_retn zt_X8_undo rfl rfl (⟨rfl, hI, f9.wk (by simp +contextual [zSC])⟩)
set_option maxRecDepth 100000 in
set_option maxHeartbeats 400000 in
theorem zs_undo0_1 {τ : zTd} {S : zES} {H : zSH} {μ0 : zq_Me} (hl : yn1 τ = 0) (hC : zIc τ S H μ0) : zq_Wp zn_X8_undo 0 [(0, .ref 0), (1, .int (nI 1))] [] μ0 (zRc (.int (-3)) τ S H μ0) := by
  refine zq_go zt_X8_undo 2 [] 2 [(0, .ref 0), (1, .int (nI 1))] [.int (nI 1), .ref 0] μ0 rfl trivial ?_
  refine zq_call zt_X8_undo [.ref 0, .int (nI 1)] [] (zs_textOf_1 μ0) rfl rfl ?_
  rintro _ _ ⟨rfl, rfl⟩
  refine zq_go zt_X8_undo 3 [] 13 [(0, .ref 0), (1, .int (nI 1)), (2, .ref 6)] [] μ0 rfl trivial ?_
  refine zq_go zt_X8_undo 3 [] (if ¬ (μ0.1 6 3) = 0 then 23 else 20) [(0, .ref 0), (1, .int (nI 1)), (2, .ref 6)] [] μ0 rfl trivial ?_
  rw [hC.1.2.1.2.2.2.1]
  rw [if_neg (by rw [hl]; decide)]
  refine zq_go zt_X8_undo 1 [] 22 [(0, .ref 0), (1, .int (nI 1)), (2, .ref 6)] [.int (-3)] μ0 rfl trivial ?_
  exact zq_retn zt_X8_undo rfl rfl (⟨rfl, hC, zq_fr.rf⟩)
set_option maxRecDepth 100000 in
set_option maxHeartbeats 400000 in
theorem zs_fault_1 {τ : zTd} {S : zES} {H : zSH} {μ0 : zq_Me} (hC : zIc τ S H μ0) : zq_Wp zn_X8_fault 0 [(0, .ref 0), (1, .int (nI 1))] [] μ0 (zRc (.int (zdn (ztf (zok6 (yb1 τ)) 4 (yn1 τ)))) τ S H μ0) := by
  refine zq_go zt_X8_fault 2 [] 2 [(0, .ref 0), (1, .int (nI 1))] [.int (nI 1), .ref 0] μ0 rfl trivial ?_
  refine zq_call zt_X8_fault [.ref 0, .int (nI 1)] [] (zs_textOf_1 μ0) rfl rfl ?_
  rintro _ _ ⟨rfl, rfl⟩
  refine zq_go zt_X8_fault 3 [] 15 [(0, .ref 0), (1, .int (nI 1)), (2, .ref 6)] [] μ0 rfl trivial ?_
  refine zq_go zt_X8_fault 2 [] 19 [(0, .ref 0), (1, .int (nI 1)), (2, .ref 6)] [.int (μ0.1 6 4)] μ0 rfl trivial ?_
  rw [hC.1.2.2.2]
  exact zq_retn zt_X8_fault rfl rfl (⟨rfl, hC, zq_fr.rf⟩)
set_option maxRecDepth 100000 in
set_option maxHeartbeats 400000 in
theorem zs_faultm_1 {τ : zTd} {S : zES} {H : zSH} {μ0 : zq_Me} (hM : zIm τ S H μ0) : zq_Wp zn_X9_fault 0 [(0, .ref 50), (1, .int (nI 1))] [] μ0 (zRm' (.int (zdn (ztf (zok6 (yb1 τ)) 4 (yn1 τ)))) τ S H μ0) := by
  refine zq_go zt_X9_fault 1 [] 1 [(0, .ref 50), (1, .int (nI 1))] [.int (nI 1)] μ0 rfl trivial ?_
  refine zq_call zt_X9_fault [.int (nI 1)] [] (zs_isTextm (nI 1) μ0) rfl rfl ?_
  rintro _ _ ⟨rfl, rfl⟩
  refine zq_go zt_X9_fault 1 [] (if (zb (0 ≤ (nI 1) ∧ (nI 1) ≤ nI 1)) = 0 then 15 else 7) [(0, .ref 50), (1, .int (nI 1))] [] μ0 rfl trivial ?_
  rw [if_neg (zb_n (by decide))]
  refine zq_go zt_X9_fault 2 [] 9 [(0, .ref 50), (1, .int (nI 1))] [.int (nI 1), .ref 50] μ0 rfl trivial ?_
  refine zq_call zt_X9_fault [.ref 50, .int (nI 1)] [] (zs_faultOf (nI 1) hM.1.1 hM.1.2) rfl rfl ?_
  rintro _ ν1 ⟨rfl, hr⟩
  obtain ⟨n1, k1, o1, p1⟩ := hr.m hM
  refine zq_go zt_X9_fault 1 [] 17 [(0, .ref 50), (1, .int (nI 1))] [.int (zdn (ztf (zok6 (yb1 τ)) 4 (yn1 τ)))] ν1 rfl trivial ?_
  exact zq_retn zt_X9_fault rfl rfl (⟨rfl, n1, k1⟩)
set_option maxRecDepth 100000 in
set_option maxHeartbeats 400000 in
theorem zs_typem_1 {τ : zTd} {S : zES} {H : zSH} {μ0 : zq_Me} {x : Nat} (lx : x ≤ 255) (hl : yn1 τ < 31) (hM : zIm τ S H μ0) : zq_Wp zn_X9_type 0 [(0, .ref 50), (1, .int (nI 1)), (2, .int (nI x))] [] μ0 (zRm' (.int (nI (yn1 τ + 1))) (τ.1, (yn1 τ + 1, (fun i => if i = yn1 τ then x else yb1 τ i)), τ.2.2) S H μ0) := by
  have hn9 : yn1 τ ≤ 31 := hM.1.2.1
  refine zq_go zt_X9_type 1 [] 1 [(0, .ref 50), (1, .int (nI 1)), (2, .int (nI x))] [.int (nI 1)] μ0 rfl trivial ?_
  refine zq_call zt_X9_type [.int (nI 1)] [] (zs_isTextm (nI 1) μ0) rfl rfl ?_
  rintro _ _ ⟨rfl, rfl⟩
  refine zq_go zt_X9_type 1 [] (if (zb (0 ≤ (nI 1) ∧ (nI 1) ≤ nI 1)) = 0 then 18 else 7) [(0, .ref 50), (1, .int (nI 1)), (2, .int (nI x))] [] μ0 rfl trivial ?_
  rw [if_neg (zb_n (by decide))]
  refine zq_go zt_X9_type 3 [] 12 [(0, .ref 50), (1, .int (nI 1)), (2, .int (nI x))] [.int (nI 255), .int (nI 0), .int (nI x)] μ0 rfl trivial ?_
  refine zq_call zt_X9_type [.int (nI x), .int (nI 0), .int (nI 255)] [] (zs_in (nI x) (nI 0) (nI 255) μ0) rfl rfl ?_
  rintro _ _ ⟨rfl, rfl⟩
  refine zq_go zt_X9_type 1 [] (if ¬ (zb (0 ≤ nI x ∧ nI x ≤ nI 255)) = 0 then 21 else 18) [(0, .ref 50), (1, .int (nI 1)), (2, .int (nI x))] [] μ0 rfl trivial ?_
  rw [if_pos (zb_n (yin (by omega) (by decide)))]
  refine zq_go zt_X9_type 6 [vp_in (nI 1) 2] (if ¬ (nI 1) = 0 then 36 else 31) [(0, .ref 50), (1, .int (nI 1)), (2, .int (nI x))] [.int (μ0.1 51 1)] μ0 rfl ⟨zn_in rfl (by decide) (by decide), trivial⟩ ?_
  rw [hM.1.2.2.2.2.1]
  rw [if_pos (by decide)]
  refine zq_go zt_X9_type 2 [] (if ¬ (nI (yn1 τ)) = (nI 31) then 44 else 41) [(0, .ref 50), (1, .int (nI 1)), (2, .int (nI x))] [] μ0 rfl trivial ?_
  rw [if_pos (by rw [zn_eq (by omega) (by omega)]; omega)]
  refine zq_go zt_X9_type 20 [vp_in (nI 1) 2, vp_in (((nI 35) * (nI 1)) + (μ0.1 51 1)) 70, vp_in (nI 1) 2, vp_in (nI 1) 2] 71 [(0, .ref 50), (1, .int (nI 1)), (2, .int (nI x))] [] (zq_u1 (zq_u1 μ0 52 ((((nI 35) * (nI 1)) + (μ0.1 51 1)).toNatClampNeg) (nI x)) 51 1 ((μ0.1 51 1) + (nI 1))) rfl ⟨zn_in rfl (by decide) (by decide), ⟨zn_in (k := (35 * 1) + (yn1 τ)) (by rw [zn_mul 35 1, hM.1.2.2.2.2.1, zn_add (35 * 1) (yn1 τ)]) (by omega) (by decide), ⟨zn_in rfl (by decide) (by decide), ⟨zn_in rfl (by decide) (by decide), trivial⟩⟩⟩⟩ ?_
  rw [zn_mul 35 1, hM.1.2.2.2.2.1, zn_add (35 * 1) (yn1 τ), zn_cl (n := (35 * 1) + (yn1 τ)) (by omega), zn_add (yn1 τ) 1]
  obtain ⟨μ1, hμ1⟩ : ∃ k9 : zq_Me, k9 = (zq_u1 (zq_u1 μ0 52 ((35 * 1) + (yn1 τ)) (nI x)) 51 1 (nI ((yn1 τ) + 1))) := ⟨_, rfl⟩
  rw [← hμ1]
  have f1 : zq_fr [51, 52] μ0 μ1 := by rw [hμ1]; exact (zq_fr.rf.u1 (by simp)).u1 (by simp)
  have s51 : ∀ i, i ≠ 1 → μ1.1 51 i = μ0.1 51 i := fun i hi => by rw [hμ1, zq_u1_o2 hi, zq_u1_ne (by decide)]
  have s52 : ∀ i, i ≠ 35 * 1 + (yn1 τ) → μ1.1 52 i = μ0.1 52 i := fun i hi => by rw [hμ1, zq_u1_ne (by decide), zq_u1_o2 hi]
  have hz : μ1.1 51 1 = nI (yn1 τ + 1) := by rw [hμ1, zq_u1_s]
  have hy : ∀ i, i < yn1 τ + 1 → μ1.1 52 (35 * 1 + i) = nI ((fun i => if i = yn1 τ then x else yb1 τ i) i) ∧ (fun i => if i = yn1 τ then x else yb1 τ i) i < 256 := fun i hi => by
    by_cases q : i = yn1 τ
    · rw [show (fun i => if i = yn1 τ then x else yb1 τ i) i = x from if_pos q, q, hμ1, zq_u1_ne (by decide), zq_u1_s]
      exact ⟨rfl, by omega⟩
    · rw [show (fun i => if i = yn1 τ then x else yb1 τ i) i = yb1 τ i from if_neg q, s52 _ (by omega)]
      exact hM.1.2.2.2.2.2 i (by omega)
  have g1 : zTm 1 31 (fun i => if i = yn1 τ then x else yb1 τ i) (yn1 τ + 1) μ1 := ⟨by omega, by decide, by decide, hz, hy⟩
  have g2 : zTm 0 35 (yb0 τ) (yn0 τ) μ1 := ⟨hM.1.1.1, by decide, by decide, by rw [s51 _ (by decide)]; exact hM.1.1.2.2.2.1, fun i hi => by have h8 := hM.1.1.1; rw [s52 _ (by omega)]; exact hM.1.1.2.2.2.2 i hi⟩
  have hI : zIm (τ.1, (yn1 τ + 1, (fun i => if i = yn1 τ then x else yb1 τ i)), τ.2.2) S H μ1 := hM.tx f1 g2 g1 rfl
  refine zq_go zt_X9_type 4 [vp_in (nI 1) 2] 77 [(0, .ref 50), (1, .int (nI 1)), (2, .int (nI x))] [.int (μ1.1 51 1)] μ1 rfl ⟨zn_in rfl (by decide) (by decide), trivial⟩ ?_
  rw [hz]
  exact zq_retn zt_X9_type rfl rfl (⟨rfl, hI, f1.wk (by simp +contextual [zSM])⟩)
set_option maxRecDepth 100000 in
set_option maxHeartbeats 400000 in
theorem zs_typeFm_1 {τ : zTd} {S : zES} {H : zSH} {μ0 : zq_Me} {x : Nat} (lx : x ≤ 255) (hl : yn1 τ = 31) (hM : zIm τ S H μ0) : zq_Wp zn_X9_type 0 [(0, .ref 50), (1, .int (nI 1)), (2, .int (nI x))] [] μ0 (zRm' (.int (-4)) τ S H μ0) := by
  refine zq_go zt_X9_type 1 [] 1 [(0, .ref 50), (1, .int (nI 1)), (2, .int (nI x))] [.int (nI 1)] μ0 rfl trivial ?_
  refine zq_call zt_X9_type [.int (nI 1)] [] (zs_isTextm (nI 1) μ0) rfl rfl ?_
  rintro _ _ ⟨rfl, rfl⟩
  refine zq_go zt_X9_type 1 [] (if (zb (0 ≤ (nI 1) ∧ (nI 1) ≤ nI 1)) = 0 then 18 else 7) [(0, .ref 50), (1, .int (nI 1)), (2, .int (nI x))] [] μ0 rfl trivial ?_
  rw [if_neg (zb_n (by decide))]
  refine zq_go zt_X9_type 3 [] 12 [(0, .ref 50), (1, .int (nI 1)), (2, .int (nI x))] [.int (nI 255), .int (nI 0), .int (nI x)] μ0 rfl trivial ?_
  refine zq_call zt_X9_type [.int (nI x), .int (nI 0), .int (nI 255)] [] (zs_in (nI x) (nI 0) (nI 255) μ0) rfl rfl ?_
  rintro _ _ ⟨rfl, rfl⟩
  refine zq_go zt_X9_type 1 [] (if ¬ (zb (0 ≤ nI x ∧ nI x ≤ nI 255)) = 0 then 21 else 18) [(0, .ref 50), (1, .int (nI 1)), (2, .int (nI x))] [] μ0 rfl trivial ?_
  rw [if_pos (zb_n (yin (by omega) (by decide)))]
  refine zq_go zt_X9_type 6 [vp_in (nI 1) 2] (if ¬ (nI 1) = 0 then 36 else 31) [(0, .ref 50), (1, .int (nI 1)), (2, .int (nI x))] [.int (μ0.1 51 1)] μ0 rfl ⟨zn_in rfl (by decide) (by decide), trivial⟩ ?_
  rw [hM.1.2.2.2.2.1]
  rw [if_pos (by decide)]
  refine zq_go zt_X9_type 2 [] (if ¬ (nI (yn1 τ)) = (nI 31) then 44 else 41) [(0, .ref 50), (1, .int (nI 1)), (2, .int (nI x))] [] μ0 rfl trivial ?_
  rw [if_neg (fun q => q (by rw [hl]))]
  refine zq_go zt_X9_type 1 [] 43 [(0, .ref 50), (1, .int (nI 1)), (2, .int (nI x))] [.int (-4)] μ0 rfl trivial ?_
  exact zq_retn zt_X9_type rfl rfl (⟨rfl, hM, zq_fr.rf⟩)
set_option maxRecDepth 100000 in
set_option maxHeartbeats 400000 in
theorem zs_wipem_1 {τ : zTd} {S : zES} {H : zSH} {μ0 : zq_Me} (hM : zIm τ S H μ0) : zq_Wp zn_X9_wipe 0 [(0, .ref 50), (1, .int (nI 1))] [] μ0 (zRm' (.int (nI (yn1 τ))) (τ.1, (0, yb1 τ), τ.2.2) S H μ0) := by
  have hn9 : yn1 τ ≤ 31 := hM.1.2.1
  refine zq_go zt_X9_wipe 1 [] 1 [(0, .ref 50), (1, .int (nI 1))] [.int (nI 1)] μ0 rfl trivial ?_
  refine zq_call zt_X9_wipe [.int (nI 1)] [] (zs_isTextm (nI 1) μ0) rfl rfl ?_
  rintro _ _ ⟨rfl, rfl⟩
  refine zq_go zt_X9_wipe 1 [] (if ¬ (zb (0 ≤ (nI 1) ∧ (nI 1) ≤ nI 1)) = 0 then 10 else 7) [(0, .ref 50), (1, .int (nI 1))] [] μ0 rfl trivial ?_
  rw [if_pos (zb_n (by decide))]
  refine zq_go zt_X9_wipe 10 [vp_in (nI 1) 2, vp_in (nI 1) 2] 24 [(0, .ref 50), (1, .int (nI 1)), (2, .int (μ0.1 51 1))] [] (zq_u1 μ0 51 1 (nI 0)) rfl ⟨zn_in rfl (by decide) (by decide), ⟨zn_in rfl (by decide) (by decide), trivial⟩⟩ ?_
  rw [hM.1.2.2.2.2.1]
  obtain ⟨μ1, hμ1⟩ : ∃ k9 : zq_Me, k9 = (zq_u1 μ0 51 1 (nI 0)) := ⟨_, rfl⟩
  rw [← hμ1]
  have f1 : zq_fr [51, 52] μ0 μ1 := by rw [hμ1]; exact zq_fr.rf.u1 (by simp)
  have s51 : ∀ i, i ≠ 1 → μ1.1 51 i = μ0.1 51 i := fun i hi => by rw [hμ1, zq_u1_o2 hi]
  have s52 : ∀ i : Nat, i = i → μ1.1 52 i = μ0.1 52 i := fun i _ => by rw [hμ1, zq_u1_ne (by decide)]
  have hz : μ1.1 51 1 = nI (0) := by rw [hμ1, zq_u1_s]
  have hy : ∀ i, i < 0 → μ1.1 52 (35 * 1 + i) = nI (yb1 τ i) ∧ yb1 τ i < 256 := fun i hi => by
    rw [s52 _ rfl]
    exact hM.1.2.2.2.2.2 i (by omega)
  have g1 : zTm 1 31 (yb1 τ) 0 μ1 := ⟨by omega, by decide, by decide, hz, hy⟩
  have g2 : zTm 0 35 (yb0 τ) (yn0 τ) μ1 := ⟨hM.1.1.1, by decide, by decide, by rw [s51 _ (by decide)]; exact hM.1.1.2.2.2.1, fun i hi => by have h8 := hM.1.1.1; rw [s52 _ (by omega)]; exact hM.1.1.2.2.2.2 i hi⟩
  have hI : zIm (τ.1, (0, yb1 τ), τ.2.2) S H μ1 := hM.tx f1 g2 g1 rfl
  refine zq_go zt_X9_wipe 1 [] 25 [(0, .ref 50), (1, .int (nI 1)), (2, .int (nI (yn1 τ)))] [.int (nI (yn1 τ))] μ1 rfl trivial ?_
  exact zq_retn zt_X9_wipe rfl rfl (⟨rfl, hI, f1.wk (by simp +contextual [zSM])⟩)
set_option maxRecDepth 100000 in
set_option maxHeartbeats 400000 in
theorem zs_undom_1 {τ : zTd} {S : zES} {H : zSH} {μ0 : zq_Me} (hl : 0 < yn1 τ) (hM : zIm τ S H μ0) : zq_Wp zn_X9_undo 0 [(0, .ref 50), (1, .int (nI 1))] [] μ0 (zRm' (.int (nI (yn1 τ - 1))) (τ.1, (yn1 τ - 1, yb1 τ), τ.2.2) S H μ0) := by
  have hn9 : yn1 τ ≤ 31 := hM.1.2.1
  refine zq_go zt_X9_undo 1 [] 1 [(0, .ref 50), (1, .int (nI 1))] [.int (nI 1)] μ0 rfl trivial ?_
  refine zq_call zt_X9_undo [.int (nI 1)] [] (zs_isTextm (nI 1) μ0) rfl rfl ?_
  rintro _ _ ⟨rfl, rfl⟩
  refine zq_go zt_X9_undo 1 [] (if ¬ (zb (0 ≤ (nI 1) ∧ (nI 1) ≤ nI 1)) = 0 then 10 else 7) [(0, .ref 50), (1, .int (nI 1))] [] μ0 rfl trivial ?_
  rw [if_pos (zb_n (by decide))]
  refine zq_go zt_X9_undo 5 [vp_in (nI 1) 2] (if ¬ (μ0.1 51 1) = 0 then 22 else 19) [(0, .ref 50), (1, .int (nI 1))] [] μ0 rfl ⟨zn_in rfl (by decide) (by decide), trivial⟩ ?_
  rw [hM.1.2.2.2.2.1]
  rw [if_pos (by rw [show (0 : Int32) = nI 0 from rfl, zn_eq (by omega) (by omega)]; omega)]
  refine zq_go zt_X9_undo 8 [vp_in (nI 1) 2, vp_in (nI 1) 2] 32 [(0, .ref 50), (1, .int (nI 1))] [] (zq_u1 μ0 51 1 ((μ0.1 51 1) - (nI 1))) rfl ⟨zn_in rfl (by decide) (by decide), ⟨zn_in rfl (by decide) (by decide), trivial⟩⟩ ?_
  rw [hM.1.2.2.2.2.1, zn_sub (show 1 ≤ (yn1 τ) by omega)]
  obtain ⟨μ1, hμ1⟩ : ∃ k9 : zq_Me, k9 = (zq_u1 μ0 51 1 (nI ((yn1 τ) - 1))) := ⟨_, rfl⟩
  rw [← hμ1]
  have f1 : zq_fr [51, 52] μ0 μ1 := by rw [hμ1]; exact zq_fr.rf.u1 (by simp)
  have s51 : ∀ i, i ≠ 1 → μ1.1 51 i = μ0.1 51 i := fun i hi => by rw [hμ1, zq_u1_o2 hi]
  have s52 : ∀ i : Nat, i = i → μ1.1 52 i = μ0.1 52 i := fun i _ => by rw [hμ1, zq_u1_ne (by decide)]
  have hz : μ1.1 51 1 = nI (yn1 τ - 1) := by rw [hμ1, zq_u1_s]
  have hy : ∀ i, i < yn1 τ - 1 → μ1.1 52 (35 * 1 + i) = nI (yb1 τ i) ∧ yb1 τ i < 256 := fun i hi => by
    rw [s52 _ rfl]
    exact hM.1.2.2.2.2.2 i (by omega)
  have g1 : zTm 1 31 (yb1 τ) (yn1 τ - 1) μ1 := ⟨by omega, by decide, by decide, hz, hy⟩
  have g2 : zTm 0 35 (yb0 τ) (yn0 τ) μ1 := ⟨hM.1.1.1, by decide, by decide, by rw [s51 _ (by decide)]; exact hM.1.1.2.2.2.1, fun i hi => by have h8 := hM.1.1.1; rw [s52 _ (by omega)]; exact hM.1.1.2.2.2.2 i hi⟩
  have hI : zIm (τ.1, (yn1 τ - 1, yb1 τ), τ.2.2) S H μ1 := hM.tx f1 g2 g1 rfl
  refine zq_go zt_X9_undo 4 [vp_in (nI 1) 2] 38 [(0, .ref 50), (1, .int (nI 1))] [.int (μ1.1 51 1)] μ1 rfl ⟨zn_in rfl (by decide) (by decide), trivial⟩ ?_
  rw [hz]
  exact zq_retn zt_X9_undo rfl rfl (⟨rfl, hI, f1.wk (by simp +contextual [zSM])⟩)
set_option maxRecDepth 100000 in
set_option maxHeartbeats 400000 in
theorem zs_undo0m_1 {τ : zTd} {S : zES} {H : zSH} {μ0 : zq_Me} (hl : yn1 τ = 0) (hM : zIm τ S H μ0) : zq_Wp zn_X9_undo 0 [(0, .ref 50), (1, .int (nI 1))] [] μ0 (zRm' (.int (-3)) τ S H μ0) := by
  refine zq_go zt_X9_undo 1 [] 1 [(0, .ref 50), (1, .int (nI 1))] [.int (nI 1)] μ0 rfl trivial ?_
  refine zq_call zt_X9_undo [.int (nI 1)] [] (zs_isTextm (nI 1) μ0) rfl rfl ?_
  rintro _ _ ⟨rfl, rfl⟩
  refine zq_go zt_X9_undo 1 [] (if ¬ (zb (0 ≤ (nI 1) ∧ (nI 1) ≤ nI 1)) = 0 then 10 else 7) [(0, .ref 50), (1, .int (nI 1))] [] μ0 rfl trivial ?_
  rw [if_pos (zb_n (by decide))]
  refine zq_go zt_X9_undo 5 [vp_in (nI 1) 2] (if ¬ (μ0.1 51 1) = 0 then 22 else 19) [(0, .ref 50), (1, .int (nI 1))] [] μ0 rfl ⟨zn_in rfl (by decide) (by decide), trivial⟩ ?_
  rw [hM.1.2.2.2.2.1]
  rw [if_neg (by rw [hl]; decide)]
  refine zq_go zt_X9_undo 1 [] 21 [(0, .ref 50), (1, .int (nI 1))] [.int (-3)] μ0 rfl trivial ?_
  exact zq_retn zt_X9_undo rfl rfl (⟨rfl, hM, zq_fr.rf⟩)
set_option maxRecDepth 100000 in
set_option maxHeartbeats 400000 in
theorem zs_typem_b (v1 v2 : Int32) (hg : ¬ ((0 ≤ v1 ∧ v1 ≤ nI 1) ∧ (0 ≤ v2 ∧ v2 ≤ nI 255))) {τ : zTd} {S : zES} {H : zSH} {μ0 : zq_Me} (hM : zIm τ S H μ0) : zq_Wp zn_X9_type 0 [(0, .ref 50), (1, .int v1), (2, .int v2)] [] μ0 (zRm' (.int (-2)) τ S H μ0) := by
  refine zq_go zt_X9_type 1 [] 1 [(0, .ref 50), (1, .int v1), (2, .int v2)] [.int v1] μ0 rfl trivial ?_
  refine zq_call zt_X9_type [.int v1] [] (zs_isTextm v1 μ0) rfl rfl ?_
  rintro _ _ ⟨rfl, rfl⟩
  refine zq_go zt_X9_type 1 [] (if (zb (0 ≤ v1 ∧ v1 ≤ nI 1)) = 0 then 18 else 7) [(0, .ref 50), (1, .int v1), (2, .int v2)] [] μ0 rfl trivial ?_
  refine zq_ite (fun h4 => ?_) (fun h4 => ?_)
  · refine zq_go zt_X9_type 1 [] 20 [(0, .ref 50), (1, .int v1), (2, .int v2)] [.int (-2)] μ0 rfl trivial ?_
    exact zq_retn zt_X9_type rfl rfl (⟨rfl, hM, zq_fr.rf⟩)
  · have g0 := zb_p h4
    refine zq_go zt_X9_type 3 [] 12 [(0, .ref 50), (1, .int v1), (2, .int v2)] [.int (nI 255), .int (nI 0), .int v2] μ0 rfl trivial ?_
    refine zq_call zt_X9_type [.int v2, .int (nI 0), .int (nI 255)] [] (zs_in v2 (nI 0) (nI 255) μ0) rfl rfl ?_
    rintro _ _ ⟨rfl, rfl⟩
    refine zq_go zt_X9_type 1 [] (if ¬ (zb (0 ≤ v2 ∧ v2 ≤ nI 255)) = 0 then 21 else 18) [(0, .ref 50), (1, .int v1), (2, .int v2)] [] μ0 rfl trivial ?_
    refine zq_ite (fun h12 => ?_) (fun h12 => ?_)
    · have g1 := zb_p h12
      exact absurd ⟨g0, g1⟩ hg
    · refine zq_go zt_X9_type 1 [] 20 [(0, .ref 50), (1, .int v1), (2, .int v2)] [.int (-2)] μ0 rfl trivial ?_
      exact zq_retn zt_X9_type rfl rfl (⟨rfl, hM, zq_fr.rf⟩)
set_option maxRecDepth 100000 in
set_option maxHeartbeats 400000 in
theorem zs_wipem_b (v1 : Int32) (hg : ¬ (0 ≤ v1 ∧ v1 ≤ nI 1)) {τ : zTd} {S : zES} {H : zSH} {μ0 : zq_Me} (hM : zIm τ S H μ0) : zq_Wp zn_X9_wipe 0 [(0, .ref 50), (1, .int v1)] [] μ0 (zRm' (.int (-2)) τ S H μ0) := by
  refine zq_go zt_X9_wipe 1 [] 1 [(0, .ref 50), (1, .int v1)] [.int v1] μ0 rfl trivial ?_
  refine zq_call zt_X9_wipe [.int v1] [] (zs_isTextm v1 μ0) rfl rfl ?_
  rintro _ _ ⟨rfl, rfl⟩
  refine zq_go zt_X9_wipe 1 [] (if ¬ (zb (0 ≤ v1 ∧ v1 ≤ nI 1)) = 0 then 10 else 7) [(0, .ref 50), (1, .int v1)] [] μ0 rfl trivial ?_
  refine zq_ite (fun h4 => ?_) (fun h4 => ?_)
  · have g0 := zb_p h4
    exact absurd g0 hg
  · refine zq_go zt_X9_wipe 1 [] 9 [(0, .ref 50), (1, .int v1)] [.int (-2)] μ0 rfl trivial ?_
    exact zq_retn zt_X9_wipe rfl rfl (⟨rfl, hM, zq_fr.rf⟩)
set_option maxRecDepth 100000 in
set_option maxHeartbeats 400000 in
theorem zs_undom_b (v1 : Int32) (hg : ¬ (0 ≤ v1 ∧ v1 ≤ nI 1)) {τ : zTd} {S : zES} {H : zSH} {μ0 : zq_Me} (hM : zIm τ S H μ0) : zq_Wp zn_X9_undo 0 [(0, .ref 50), (1, .int v1)] [] μ0 (zRm' (.int (-2)) τ S H μ0) := by
  refine zq_go zt_X9_undo 1 [] 1 [(0, .ref 50), (1, .int v1)] [.int v1] μ0 rfl trivial ?_
  refine zq_call zt_X9_undo [.int v1] [] (zs_isTextm v1 μ0) rfl rfl ?_
  rintro _ _ ⟨rfl, rfl⟩
  refine zq_go zt_X9_undo 1 [] (if ¬ (zb (0 ≤ v1 ∧ v1 ≤ nI 1)) = 0 then 10 else 7) [(0, .ref 50), (1, .int v1)] [] μ0 rfl trivial ?_
  refine zq_ite (fun h4 => ?_) (fun h4 => ?_)
  · have g0 := zb_p h4
    exact absurd g0 hg
  · refine zq_go zt_X9_undo 1 [] 9 [(0, .ref 50), (1, .int v1)] [.int (-2)] μ0 rfl trivial ?_
    exact zq_retn zt_X9_undo rfl rfl (⟨rfl, hM, zq_fr.rf⟩)
set_option maxRecDepth 100000 in
set_option maxHeartbeats 400000 in
theorem zs_faultm_b (v1 : Int32) (hg : ¬ (0 ≤ v1 ∧ v1 ≤ nI 1)) {τ : zTd} {S : zES} {H : zSH} {μ0 : zq_Me} (hM : zIm τ S H μ0) : zq_Wp zn_X9_fault 0 [(0, .ref 50), (1, .int v1)] [] μ0 (zRm' (.int (-2)) τ S H μ0) := by
  refine zq_go zt_X9_fault 1 [] 1 [(0, .ref 50), (1, .int v1)] [.int v1] μ0 rfl trivial ?_
  refine zq_call zt_X9_fault [.int v1] [] (zs_isTextm v1 μ0) rfl rfl ?_
  rintro _ _ ⟨rfl, rfl⟩
  refine zq_go zt_X9_fault 1 [] (if (zb (0 ≤ v1 ∧ v1 ≤ nI 1)) = 0 then 15 else 7) [(0, .ref 50), (1, .int v1)] [] μ0 rfl trivial ?_
  refine zq_ite (fun h4 => ?_) (fun h4 => ?_)
  · refine zq_go zt_X9_fault 1 [] 17 [(0, .ref 50), (1, .int v1)] [.int (-2)] μ0 rfl trivial ?_
    exact zq_retn zt_X9_fault rfl rfl (⟨rfl, hM, zq_fr.rf⟩)
  · have g0 := zb_p h4
    exact absurd g0 hg
theorem yt01 {v : Int32} (h : 0 ≤ v ∧ v ≤ nI 1) : v = nI 0 ∨ v = nI 1 := by
  obtain ⟨n, ln, rfl⟩ := yix (by decide) h
  obtain rfl | rfl : n = 0 ∨ n = 1 := by omega
  · exact Or.inl rfl
  · exact Or.inr rfl
theorem ytx0 {v : Int32} (h : ¬ (0 ≤ v ∧ v ≤ nI 1)) : ¬ v = 0 := fun q => h (by rw [q]; decide)
theorem ytx1 {v : Int32} (h : ¬ (0 ≤ v ∧ v ≤ nI 1)) : ¬ v = nI 1 := fun q => h (by rw [q]; decide)
theorem zo_type (v1 v2 : Int32) : zop zn_X8_type [(0, .ref 0), (1, .int v1), (2, .int v2)] zn_X9_type [(0, .ref 50), (1, .int v1), (2, .int v2)] := by
  intro τ S H μ hC hM
  by_cases h1 : 0 ≤ v1 ∧ v1 ≤ nI 1
  · by_cases h2 : 0 ≤ v2 ∧ v2 ≤ nI 255
    · obtain ⟨x, lx, rfl⟩ := yix (by decide) h2
      rcases yt01 h1 with rfl | rfl
      · by_cases hl : yn0 τ < 35
        · exact ⟨_, _, S, H, zs_type_0 lx hl hC, fun _ h => zs_typem_0 lx hl h⟩
        · have hl : yn0 τ = 35 := by have h9 : yn0 τ ≤ 35 := hC.1.1.1; omega
          exact ⟨_, τ, S, H, zs_typeF_0 lx hl hC, fun _ h => zs_typeFm_0 lx hl h⟩
      · by_cases hl : yn1 τ < 31
        · exact ⟨_, _, S, H, zs_type_1 lx hl hC, fun _ h => zs_typem_1 lx hl h⟩
        · have hl : yn1 τ = 31 := by have h9 : yn1 τ ≤ 31 := hC.1.2.1.1; omega
          exact ⟨_, τ, S, H, zs_typeF_1 lx hl hC, fun _ h => zs_typeFm_1 lx hl h⟩
    · rcases yt01 h1 with rfl | rfl
      · exact ⟨_, τ, S, H, zs_typeB_0 v2 h2 hC, fun _ h => zs_typem_b _ _ (fun q => h2 q.2) h⟩
      · exact ⟨_, τ, S, H, zs_typeB_1 v2 h2 hC, fun _ h => zs_typem_b _ _ (fun q => h2 q.2) h⟩
  · exact ⟨_, τ, S, H, zs_type_x v1 (ytx0 h1) (ytx1 h1) v2 hC, fun _ h => zs_typem_b _ _ (fun q => h1 q.1) h⟩
theorem zo_wipe (v1 : Int32) : zop zn_X8_wipe [(0, .ref 0), (1, .int v1)] zn_X9_wipe [(0, .ref 50), (1, .int v1)] := by
  intro τ S H μ hC hM
  by_cases h1 : 0 ≤ v1 ∧ v1 ≤ nI 1
  · rcases yt01 h1 with rfl | rfl
    · by_cases hl : yn0 τ = 0
      · exact ⟨_, _, S, H, zs_wipe0_0 hl hC, fun _ h => zs_wipem_0 h⟩
      · exact ⟨_, _, S, H, zs_wipe_0 (by omega) hC, fun _ h => zs_wipem_0 h⟩
    · by_cases hl : yn1 τ = 0
      · exact ⟨_, _, S, H, zs_wipe0_1 hl hC, fun _ h => zs_wipem_1 h⟩
      · exact ⟨_, _, S, H, zs_wipe_1 (by omega) hC, fun _ h => zs_wipem_1 h⟩
  · exact ⟨_, τ, S, H, zs_wipe_x v1 (ytx0 h1) (ytx1 h1) hC, fun _ h => zs_wipem_b _ h1 h⟩
theorem zo_undo (v1 : Int32) : zop zn_X8_undo [(0, .ref 0), (1, .int v1)] zn_X9_undo [(0, .ref 50), (1, .int v1)] := by
  intro τ S H μ hC hM
  by_cases h1 : 0 ≤ v1 ∧ v1 ≤ nI 1
  · rcases yt01 h1 with rfl | rfl
    · by_cases hl : yn0 τ = 0
      · exact ⟨_, τ, S, H, zs_undo0_0 hl hC, fun _ h => zs_undo0m_0 hl h⟩
      · exact ⟨_, _, S, H, zs_undo_0 (by omega) hC, fun _ h => zs_undom_0 (by omega) h⟩
    · by_cases hl : yn1 τ = 0
      · exact ⟨_, τ, S, H, zs_undo0_1 hl hC, fun _ h => zs_undo0m_1 hl h⟩
      · exact ⟨_, _, S, H, zs_undo_1 (by omega) hC, fun _ h => zs_undom_1 (by omega) h⟩
  · exact ⟨_, τ, S, H, zs_undo_x v1 (ytx0 h1) (ytx1 h1) hC, fun _ h => zs_undom_b _ h1 h⟩
theorem zo_fault (v1 : Int32) : zop zn_X8_fault [(0, .ref 0), (1, .int v1)] zn_X9_fault [(0, .ref 50), (1, .int v1)] := by
  intro τ S H μ hC hM
  by_cases h1 : 0 ≤ v1 ∧ v1 ≤ nI 1
  · rcases yt01 h1 with rfl | rfl
    · exact ⟨_, τ, S, H, zs_fault_0 hC, fun _ h => zs_faultm_0 h⟩
    · exact ⟨_, τ, S, H, zs_fault_1 hC, fun _ h => zs_faultm_1 h⟩
  · exact ⟨_, τ, S, H, zs_fault_x v1 (ytx0 h1) (ytx1 h1) hC, fun _ h => zs_faultm_b _ h1 h⟩
def yDoor (τ : zTd) (d w : Nat) : Nat := if w = 0 then yo1 τ d else yo2 τ d
def yPers (τ : zTd) (p w : Nat) : Nat := if w = 0 then ysr τ p else if w = 1 then yst τ p else ybd τ p
set_option maxRecDepth 100000 in
set_option maxHeartbeats 400000 in
theorem zs_door {τ : zTd} {S : zES} {H : zSH} {μ0 : zq_Me} {d w : Nat} (ld : d < ynd τ) (lw : w ≤ 1) (hC : zIc τ S H μ0) : zq_Wp zn_X8_door 0 [(0, .ref 0), (1, .int (nI d)), (2, .int (nI w))] [] μ0 (zRc (.int (nI (yDoor τ d w))) τ S H μ0) := by
  have hnd := hC.2.1.1.1
  refine zq_go zt_X8_door 7 [] 11 [(0, .ref 0), (1, .int (nI d)), (2, .int (nI w))] [.int ((μ0.1 1 5) - (nI 1)), .int (nI 0), .int (nI d)] μ0 rfl trivial ?_
  rw [hC.2.1.1.2.1]
  refine zq_call zt_X8_door [.int (nI d), .int (nI 0), .int ((nI (ynd τ)) - (nI 1))] [] (zs_within (nI d) (nI 0) (nI (ynd τ) - nI 1) μ0) rfl rfl ?_
  rintro _ _ ⟨rfl, rfl⟩
  refine zq_go zt_X8_door 1 [] (if (zb (0 ≤ nI d ∧ nI d ≤ nI (ynd τ) - nI 1)) = 0 then 26 else 17) [(0, .ref 0), (1, .int (nI d)), (2, .int (nI w))] [] μ0 rfl trivial ?_
  rw [if_neg (zb_n (yip (by omega) (by omega)))]
  refine zq_go zt_X8_door 3 [] 20 [(0, .ref 0), (1, .int (nI d)), (2, .int (nI w))] [.int (nI 1), .int (nI 0), .int (nI w)] μ0 rfl trivial ?_
  refine zq_call zt_X8_door [.int (nI w), .int (nI 0), .int (nI 1)] [] (zs_within (nI w) (nI 0) (nI 1) μ0) rfl rfl ?_
  rintro _ _ ⟨rfl, rfl⟩
  refine zq_go zt_X8_door 1 [] (if ¬ (zb (0 ≤ nI w ∧ nI w ≤ nI 1)) = 0 then 29 else 26) [(0, .ref 0), (1, .int (nI d)), (2, .int (nI w))] [] μ0 rfl trivial ?_
  rw [if_pos (zb_n (yin (by omega) (by decide)))]
  refine zq_go zt_X8_door 2 [] (if ¬ (nI w) = 0 then 45 else 33) [(0, .ref 0), (1, .int (nI d)), (2, .int (nI w))] [] μ0 rfl trivial ?_
  refine zq_ite (fun h13 => ?_) (fun h13 => ?_)
  · rw [show (0 : Int32) = nI 0 from rfl, zn_eq (by omega) (by omega)] at h13
    have e0 : yDoor τ d w = yo2 τ d := if_neg (by omega)
    rw [e0]
    refine zq_go zt_X8_door 5 [vp_in (nI d) 12] 54 [(0, .ref 0), (1, .int (nI d)), (2, .int (nI w))] [.int (μ0.1 4 ((nI d).toNatClampNeg))] μ0 rfl ⟨zn_in (k := d) rfl (by omega) (by decide), trivial⟩ ?_
    rw [zn_cl (n := d) (by omega), (hC.2.1.1.2.2.2 d ld).1]
    exact zq_retn zt_X8_door rfl rfl (⟨rfl, hC, zq_fr.rf⟩)
  · rw [show (0 : Int32) = nI 0 from rfl, zn_eq (by omega) (by omega)] at h13
    have e0 : yDoor τ d w = yo1 τ d := if_pos (by omega)
    rw [e0]
    refine zq_go zt_X8_door 6 [vp_in (nI d) 12] 54 [(0, .ref 0), (1, .int (nI d)), (2, .int (nI w))] [.int (μ0.1 3 ((nI d).toNatClampNeg))] μ0 rfl ⟨zn_in (k := d) rfl (by omega) (by decide), trivial⟩ ?_
    rw [zn_cl (n := d) (by omega), (hC.2.1.1.2.2.1 d ld).1]
    exact zq_retn zt_X8_door rfl rfl (⟨rfl, hC, zq_fr.rf⟩)
/-! of the reference, over what it has read -/
set_option maxRecDepth 100000 in
set_option maxHeartbeats 400000 in
theorem zs_doorOf {τ : zTd} {μ : zq_Me} (hD : zDm (ynd τ) (yo1 τ) (yo2 τ) μ) {d w : Nat} (ld : d < ynd τ) (lw : w ≤ 1) : zq_Wp zn_X9_doorOf 0 [(0, .ref 50), (1, .int (nI d)), (2, .int (nI w))] [] μ (zq_pi (nI (yDoor τ d w)) μ) := by
  have hnd := hD.1
  refine zq_go zt_X9_doorOf 2 [] (if ¬ (nI w) = 0 then 13 else 4) [(0, .ref 50), (1, .int (nI d)), (2, .int (nI w))] [] μ rfl trivial ?_
  refine zq_ite (fun h2 => ?_) (fun h2 => ?_)
  · rw [show (0 : Int32) = nI 0 from rfl, zn_eq (by omega) (by omega)] at h2
    have e0 : yDoor τ d w = yo2 τ d := if_neg (by omega)
    rw [e0]
    refine zq_go zt_X9_doorOf 4 [vp_in (nI d) 13] 19 [(0, .ref 50), (1, .int (nI d)), (2, .int (nI w))] [.int (μ.1 54 ((nI d).toNatClampNeg))] μ rfl ⟨zn_in (k := d) rfl (by omega) (by decide), trivial⟩ ?_
    rw [zn_cl (n := d) (by omega), (hD.2.2.2 d ld).1]
    exact zq_retn zt_X9_doorOf rfl rfl (⟨rfl, rfl⟩)
  · rw [show (0 : Int32) = nI 0 from rfl, zn_eq (by omega) (by omega)] at h2
    have e0 : yDoor τ d w = yo1 τ d := if_pos (by omega)
    rw [e0]
    refine zq_go zt_X9_doorOf 5 [vp_in (nI d) 13] 19 [(0, .ref 50), (1, .int (nI d)), (2, .int (nI w))] [.int (μ.1 53 ((nI d).toNatClampNeg))] μ rfl ⟨zn_in (k := d) rfl (by omega) (by decide), trivial⟩ ?_
    rw [zn_cl (n := d) (by omega), (hD.2.2.1 d ld).1]
    exact zq_retn zt_X9_doorOf rfl rfl (⟨rfl, rfl⟩)
set_option maxRecDepth 100000 in
set_option maxHeartbeats 400000 in
theorem zs_doorm {τ : zTd} {S : zES} {H : zSH} {μ0 : zq_Me} {d w : Nat} (ld : d < ynd τ) (lw : w ≤ 1) (hM : zIm τ S H μ0) : zq_Wp zn_X9_door 0 [(0, .ref 50), (1, .int (nI d)), (2, .int (nI w))] [] μ0 (zRm' (.int (nI (yDoor τ d w))) τ S H μ0) := by
  refine zq_go zt_X9_door 2 [] 2 [(0, .ref 50), (1, .int (nI d)), (2, .int (nI w))] [.int (nI d), .ref 50] μ0 rfl trivial ?_
  refine zq_call zt_X9_door [.ref 50, .int (nI d)] [] (zs_isDoorm (nI d) hM) rfl rfl ?_
  rintro _ ν0 ⟨rfl, n0, k0, d0, p0⟩
  have hnd := d0.1
  refine zq_go zt_X9_door 1 [] (if (zb (0 ≤ (nI d) ∧ (nI d) ≤ nI (ynd τ) - nI 1)) = 0 then 24 else 8) [(0, .ref 50), (1, .int (nI d)), (2, .int (nI w))] [] ν0 rfl trivial ?_
  rw [if_neg (zb_n (yip ld (by omega)))]
  refine zq_go zt_X9_door 1 [] 9 [(0, .ref 50), (1, .int (nI d)), (2, .int (nI w))] [.int (nI w)] ν0 rfl trivial ?_
  refine zq_call zt_X9_door [.int (nI w)] [] (zs_isTwom (nI w) ν0) rfl rfl ?_
  rintro _ _ ⟨rfl, rfl⟩
  refine zq_go zt_X9_door 1 [] (if (zb (0 ≤ (nI w) ∧ (nI w) ≤ nI 1)) = 0 then 24 else 15) [(0, .ref 50), (1, .int (nI d)), (2, .int (nI w))] [] ν0 rfl trivial ?_
  rw [if_neg (zb_n (yin (by omega) (by decide)))]
  refine zq_go zt_X9_door 3 [] 18 [(0, .ref 50), (1, .int (nI d)), (2, .int (nI w))] [.int (nI w), .int (nI d), .ref 50] ν0 rfl trivial ?_
  refine zq_call zt_X9_door [.ref 50, .int (nI d), .int (nI w)] [] (zs_doorOf d0 ld lw) rfl rfl ?_
  rintro _ _ ⟨rfl, rfl⟩
  refine zq_go zt_X9_door 1 [] 26 [(0, .ref 50), (1, .int (nI d)), (2, .int (nI w))] [.int (nI (yDoor τ d w))] ν0 rfl trivial ?_
  exact zq_retn zt_X9_door rfl rfl (⟨rfl, n0, k0⟩)
set_option maxRecDepth 100000 in
set_option maxHeartbeats 400000 in
theorem zs_person {τ : zTd} {S : zES} {H : zSH} {μ0 : zq_Me} {p w : Nat} (lp : p < ynp τ) (lw : w ≤ 2) (hC : zIc τ S H μ0) : zq_Wp zn_X8_person 0 [(0, .ref 0), (1, .int (nI p)), (2, .int (nI w))] [] μ0 (zRc (.int (nI (yPers τ p w))) τ S H μ0) := by
  have hnp := hC.2.1.2.1
  refine zq_go zt_X8_person 2 [] 2 [(0, .ref 0), (1, .int (nI p)), (2, .int (nI w))] [.int (nI p), .ref 0] μ0 rfl trivial ?_
  refine zq_call zt_X8_person [.ref 0, .int (nI p)] [] (zs_isPerson (nI p) hC) rfl rfl ?_
  rintro _ _ ⟨rfl, rfl⟩
  refine zq_go zt_X8_person 1 [] (if (zb (0 ≤ nI p ∧ nI p ≤ nI (ynp τ) - nI 1)) = 0 then 17 else 8) [(0, .ref 0), (1, .int (nI p)), (2, .int (nI w))] [] μ0 rfl trivial ?_
  rw [if_neg (zb_n (yip (by omega) (by omega)))]
  refine zq_go zt_X8_person 3 [] 11 [(0, .ref 0), (1, .int (nI p)), (2, .int (nI w))] [.int (nI 2), .int (nI 0), .int (nI w)] μ0 rfl trivial ?_
  refine zq_call zt_X8_person [.int (nI w), .int (nI 0), .int (nI 2)] [] (zs_within (nI w) (nI 0) (nI 2) μ0) rfl rfl ?_
  rintro _ _ ⟨rfl, rfl⟩
  refine zq_go zt_X8_person 1 [] (if ¬ (zb (0 ≤ nI w ∧ nI w ≤ nI 2)) = 0 then 20 else 17) [(0, .ref 0), (1, .int (nI p)), (2, .int (nI w))] [] μ0 rfl trivial ?_
  rw [if_pos (zb_n (yin (by omega) (by decide)))]
  refine zq_go zt_X8_person 2 [] (if ¬ (nI w) = 0 then 34 else 24) [(0, .ref 0), (1, .int (nI p)), (2, .int (nI w))] [] μ0 rfl trivial ?_
  refine zq_ite (fun h12 => ?_) (fun h12 => ?_)
  · rw [show (0 : Int32) = nI 0 from rfl, zn_eq (by omega) (by omega)] at h12
    
    refine zq_go zt_X8_person 3 [] (if ¬ (nI w) = (nI 1) then 51 else 39) [(0, .ref 0), (1, .int (nI p)), (2, .int (nI w))] [] μ0 rfl trivial ?_
    refine zq_ite (fun h16 => ?_) (fun h16 => ?_)
    · rw [zn_eq (by omega) (by omega)] at h16
      have e0 : yPers τ p w = ybd τ p := by unfold yPers; rw [if_neg (by omega), if_neg (by omega)]
      rw [e0]
      refine zq_go zt_X8_person 5 [vp_in (nI p) 8] 60 [(0, .ref 0), (1, .int (nI p)), (2, .int (nI w))] [.int (μ0.1 10 ((nI p).toNatClampNeg))] μ0 rfl ⟨zn_in (k := p) rfl (by omega) (by decide), trivial⟩ ?_
      rw [zn_cl (n := p) (by omega), (hC.2.1.2.2.2 p lp).2.2.2.2.1]
      exact zq_retn zt_X8_person rfl rfl (⟨rfl, hC, zq_fr.rf⟩)
    · rw [zn_eq (by omega) (by omega)] at h16
      have e0 : yPers τ p w = yst τ p := by unfold yPers; rw [if_neg (by omega), if_pos (by omega)]
      rw [e0]
      refine zq_go zt_X8_person 6 [vp_in (nI p) 8] 60 [(0, .ref 0), (1, .int (nI p)), (2, .int (nI w))] [.int (μ0.1 9 ((nI p).toNatClampNeg))] μ0 rfl ⟨zn_in (k := p) rfl (by omega) (by decide), trivial⟩ ?_
      rw [zn_cl (n := p) (by omega), (hC.2.1.2.2.2 p lp).2.2.1]
      exact zq_retn zt_X8_person rfl rfl (⟨rfl, hC, zq_fr.rf⟩)
  · rw [show (0 : Int32) = nI 0 from rfl, zn_eq (by omega) (by omega)] at h12
    have e0 : yPers τ p w = ysr τ p := if_pos (by omega)
    rw [e0]
    refine zq_go zt_X8_person 5 [vp_in (nI p) 8] 33 [(0, .ref 0), (1, .int (nI p)), (2, .int (nI w))] [.int (μ0.1 8 ((nI p).toNatClampNeg))] μ0 rfl ⟨zn_in (k := p) rfl (by omega) (by decide), trivial⟩ ?_
    rw [zn_cl (n := p) (by omega), (hC.2.1.2.2.2 p lp).1]
    exact zq_retn zt_X8_person rfl rfl (⟨rfl, hC, zq_fr.rf⟩)
set_option maxRecDepth 100000 in
set_option maxHeartbeats 400000 in
theorem zs_personOf {τ : zTd} {μ : zq_Me} (hP : zPm (ynp τ) (ysr τ) (yst τ) (ybd τ) μ) {p w : Nat} (lp : p < ynp τ) (lw : w ≤ 2) : zq_Wp zn_X9_personOf 0 [(0, .ref 50), (1, .int (nI p)), (2, .int (nI w))] [] μ (zq_pi (nI (yPers τ p w)) μ) := by
  have hnp := hP.1
  refine zq_go zt_X9_personOf 2 [] (if ¬ (nI w) = 0 then 13 else 4) [(0, .ref 50), (1, .int (nI p)), (2, .int (nI w))] [] μ rfl trivial ?_
  refine zq_ite (fun h2 => ?_) (fun h2 => ?_)
  · rw [show (0 : Int32) = nI 0 from rfl, zn_eq (by omega) (by omega)] at h2
    
    refine zq_go zt_X9_personOf 3 [] (if ¬ (nI w) = (nI 1) then 27 else 18) [(0, .ref 50), (1, .int (nI p)), (2, .int (nI w))] [] μ rfl trivial ?_
    refine zq_ite (fun h6 => ?_) (fun h6 => ?_)
    · rw [zn_eq (by omega) (by omega)] at h6
      have e0 : yPers τ p w = ybd τ p := by unfold yPers; rw [if_neg (by omega), if_neg (by omega)]
      rw [e0]
      refine zq_go zt_X9_personOf 4 [vp_in (nI p) 9] 33 [(0, .ref 50), (1, .int (nI p)), (2, .int (nI w))] [.int (μ.1 57 ((nI p).toNatClampNeg))] μ rfl ⟨zn_in (k := p) rfl (by omega) (by decide), trivial⟩ ?_
      rw [zn_cl (n := p) (by omega), (hP.2.2 p lp).2.2.2.2.1]
      exact zq_retn zt_X9_personOf rfl rfl (⟨rfl, rfl⟩)
    · rw [zn_eq (by omega) (by omega)] at h6
      have e0 : yPers τ p w = yst τ p := by unfold yPers; rw [if_neg (by omega), if_pos (by omega)]
      rw [e0]
      refine zq_go zt_X9_personOf 5 [vp_in (nI p) 9] 33 [(0, .ref 50), (1, .int (nI p)), (2, .int (nI w))] [.int (μ.1 56 ((nI p).toNatClampNeg))] μ rfl ⟨zn_in (k := p) rfl (by omega) (by decide), trivial⟩ ?_
      rw [zn_cl (n := p) (by omega), (hP.2.2 p lp).2.2.1]
      exact zq_retn zt_X9_personOf rfl rfl (⟨rfl, rfl⟩)
  · rw [show (0 : Int32) = nI 0 from rfl, zn_eq (by omega) (by omega)] at h2
    have e0 : yPers τ p w = ysr τ p := if_pos (by omega)
    rw [e0]
    refine zq_go zt_X9_personOf 5 [vp_in (nI p) 9] 33 [(0, .ref 50), (1, .int (nI p)), (2, .int (nI w))] [.int (μ.1 55 ((nI p).toNatClampNeg))] μ rfl ⟨zn_in (k := p) rfl (by omega) (by decide), trivial⟩ ?_
    rw [zn_cl (n := p) (by omega), (hP.2.2 p lp).1]
    exact zq_retn zt_X9_personOf rfl rfl (⟨rfl, rfl⟩)
set_option maxRecDepth 100000 in
set_option maxHeartbeats 400000 in
theorem zs_personm {τ : zTd} {S : zES} {H : zSH} {μ0 : zq_Me} {p w : Nat} (lp : p < ynp τ) (lw : w ≤ 2) (hM : zIm τ S H μ0) : zq_Wp zn_X9_person 0 [(0, .ref 50), (1, .int (nI p)), (2, .int (nI w))] [] μ0 (zRm' (.int (nI (yPers τ p w))) τ S H μ0) := by
  refine zq_go zt_X9_person 2 [] 2 [(0, .ref 50), (1, .int (nI p)), (2, .int (nI w))] [.int (nI p), .ref 50] μ0 rfl trivial ?_
  refine zq_call zt_X9_person [.ref 50, .int (nI p)] [] (zs_isPersonm (nI p) hM) rfl rfl ?_
  rintro _ ν0 ⟨rfl, n0, k0, d0, p0⟩
  have hnp := p0.1
  refine zq_go zt_X9_person 1 [] (if (zb (0 ≤ (nI p) ∧ (nI p) ≤ nI (ynp τ) - nI 1)) = 0 then 24 else 8) [(0, .ref 50), (1, .int (nI p)), (2, .int (nI w))] [] ν0 rfl trivial ?_
  rw [if_neg (zb_n (yip lp (by omega)))]
  refine zq_go zt_X9_person 1 [] 9 [(0, .ref 50), (1, .int (nI p)), (2, .int (nI w))] [.int (nI w)] ν0 rfl trivial ?_
  refine zq_call zt_X9_person [.int (nI w)] [] (zs_isThreem (nI w) ν0) rfl rfl ?_
  rintro _ _ ⟨rfl, rfl⟩
  refine zq_go zt_X9_person 1 [] (if (zb (0 ≤ (nI w) ∧ (nI w) ≤ nI 2)) = 0 then 24 else 15) [(0, .ref 50), (1, .int (nI p)), (2, .int (nI w))] [] ν0 rfl trivial ?_
  rw [if_neg (zb_n (yin (by omega) (by decide)))]
  refine zq_go zt_X9_person 3 [] 18 [(0, .ref 50), (1, .int (nI p)), (2, .int (nI w))] [.int (nI w), .int (nI p), .ref 50] ν0 rfl trivial ?_
  refine zq_call zt_X9_person [.ref 50, .int (nI p), .int (nI w)] [] (zs_personOf p0 lp lw) rfl rfl ?_
  rintro _ _ ⟨rfl, rfl⟩
  refine zq_go zt_X9_person 1 [] 26 [(0, .ref 50), (1, .int (nI p)), (2, .int (nI w))] [.int (nI (yPers τ p w))] ν0 rfl trivial ?_
  exact zq_retn zt_X9_person rfl rfl (⟨rfl, n0, k0⟩)
set_option maxRecDepth 100000 in
set_option maxHeartbeats 400000 in
theorem zs_door_b {τ : zTd} {S : zES} {H : zSH} {μ0 : zq_Me} (v1 v2 : Int32) (hg : ¬ ((0 ≤ v1 ∧ v1 ≤ nI (ynd τ) - nI 1) ∧ (0 ≤ v2 ∧ v2 ≤ nI 1))) (hC : zIc τ S H μ0) : zq_Wp zn_X8_door 0 [(0, .ref 0), (1, .int v1), (2, .int v2)] [] μ0 (zRc (.int (-2)) τ S H μ0) := by
  refine zq_go zt_X8_door 7 [] 11 [(0, .ref 0), (1, .int v1), (2, .int v2)] [.int ((μ0.1 1 5) - (nI 1)), .int (nI 0), .int v1] μ0 rfl trivial ?_
  rw [hC.2.1.1.2.1]
  refine zq_call zt_X8_door [.int v1, .int (nI 0), .int ((nI (ynd τ)) - (nI 1))] [] (zs_within v1 (nI 0) (nI (ynd τ) - nI 1) μ0) rfl rfl ?_
  rintro _ _ ⟨rfl, rfl⟩
  refine zq_go zt_X8_door 1 [] (if (zb (0 ≤ v1 ∧ v1 ≤ nI (ynd τ) - nI 1)) = 0 then 26 else 17) [(0, .ref 0), (1, .int v1), (2, .int v2)] [] μ0 rfl trivial ?_
  refine zq_ite (fun h5 => ?_) (fun h5 => ?_)
  · refine zq_go zt_X8_door 1 [] 28 [(0, .ref 0), (1, .int v1), (2, .int v2)] [.int (-2)] μ0 rfl trivial ?_
    exact zq_retn zt_X8_door rfl rfl (⟨rfl, hC, zq_fr.rf⟩)
  · have g0 := zb_p h5
    refine zq_go zt_X8_door 3 [] 20 [(0, .ref 0), (1, .int v1), (2, .int v2)] [.int (nI 1), .int (nI 0), .int v2] μ0 rfl trivial ?_
    refine zq_call zt_X8_door [.int v2, .int (nI 0), .int (nI 1)] [] (zs_within v2 (nI 0) (nI 1) μ0) rfl rfl ?_
    rintro _ _ ⟨rfl, rfl⟩
    refine zq_go zt_X8_door 1 [] (if ¬ (zb (0 ≤ v2 ∧ v2 ≤ nI 1)) = 0 then 29 else 26) [(0, .ref 0), (1, .int v1), (2, .int v2)] [] μ0 rfl trivial ?_
    refine zq_ite (fun h13 => ?_) (fun h13 => ?_)
    · have g1 := zb_p h13
      exact absurd ⟨g0, g1⟩ hg
    · refine zq_go zt_X8_door 1 [] 28 [(0, .ref 0), (1, .int v1), (2, .int v2)] [.int (-2)] μ0 rfl trivial ?_
      exact zq_retn zt_X8_door rfl rfl (⟨rfl, hC, zq_fr.rf⟩)
set_option maxRecDepth 100000 in
set_option maxHeartbeats 400000 in
theorem zs_doorm_b {τ : zTd} {S : zES} {H : zSH} {μ0 : zq_Me} (v1 v2 : Int32) (hg : ¬ ((0 ≤ v1 ∧ v1 ≤ nI (ynd τ) - nI 1) ∧ (0 ≤ v2 ∧ v2 ≤ nI 1))) (hM : zIm τ S H μ0) : zq_Wp zn_X9_door 0 [(0, .ref 50), (1, .int v1), (2, .int v2)] [] μ0 (zRm' (.int (-2)) τ S H μ0) := by
  refine zq_go zt_X9_door 2 [] 2 [(0, .ref 50), (1, .int v1), (2, .int v2)] [.int v1, .ref 50] μ0 rfl trivial ?_
  refine zq_call zt_X9_door [.ref 50, .int v1] [] (zs_isDoorm v1 hM) rfl rfl ?_
  rintro _ μ1 ⟨rfl, m1, f1, d1, p1⟩
  refine zq_go zt_X9_door 1 [] (if (zb (0 ≤ v1 ∧ v1 ≤ nI (ynd τ) - nI 1)) = 0 then 24 else 8) [(0, .ref 50), (1, .int v1), (2, .int v2)] [] μ1 rfl trivial ?_
  refine zq_ite (fun h4 => ?_) (fun h4 => ?_)
  · refine zq_go zt_X9_door 1 [] 26 [(0, .ref 50), (1, .int v1), (2, .int v2)] [.int (-2)] μ1 rfl trivial ?_
    exact zq_retn zt_X9_door rfl rfl (⟨rfl, m1, f1⟩)
  · have g0 := zb_p h4
    refine zq_go zt_X9_door 1 [] 9 [(0, .ref 50), (1, .int v1), (2, .int v2)] [.int v2] μ1 rfl trivial ?_
    refine zq_call zt_X9_door [.int v2] [] (zs_isTwom v2 μ1) rfl rfl ?_
    rintro _ _ ⟨rfl, rfl⟩
    refine zq_go zt_X9_door 1 [] (if (zb (0 ≤ v2 ∧ v2 ≤ nI 1)) = 0 then 24 else 15) [(0, .ref 50), (1, .int v1), (2, .int v2)] [] μ1 rfl trivial ?_
    refine zq_ite (fun h12 => ?_) (fun h12 => ?_)
    · refine zq_go zt_X9_door 1 [] 26 [(0, .ref 50), (1, .int v1), (2, .int v2)] [.int (-2)] μ1 rfl trivial ?_
      exact zq_retn zt_X9_door rfl rfl (⟨rfl, m1, f1⟩)
    · have g1 := zb_p h12
      exact absurd ⟨g0, g1⟩ hg
set_option maxRecDepth 100000 in
set_option maxHeartbeats 400000 in
theorem zs_person_b {τ : zTd} {S : zES} {H : zSH} {μ0 : zq_Me} (v1 v2 : Int32) (hg : ¬ ((0 ≤ v1 ∧ v1 ≤ nI (ynp τ) - nI 1) ∧ (0 ≤ v2 ∧ v2 ≤ nI 2))) (hC : zIc τ S H μ0) : zq_Wp zn_X8_person 0 [(0, .ref 0), (1, .int v1), (2, .int v2)] [] μ0 (zRc (.int (-2)) τ S H μ0) := by
  refine zq_go zt_X8_person 2 [] 2 [(0, .ref 0), (1, .int v1), (2, .int v2)] [.int v1, .ref 0] μ0 rfl trivial ?_
  refine zq_call zt_X8_person [.ref 0, .int v1] [] (zs_isPerson v1 hC) rfl rfl ?_
  rintro _ _ ⟨rfl, rfl⟩
  refine zq_go zt_X8_person 1 [] (if (zb (0 ≤ v1 ∧ v1 ≤ nI (ynp τ) - nI 1)) = 0 then 17 else 8) [(0, .ref 0), (1, .int v1), (2, .int v2)] [] μ0 rfl trivial ?_
  refine zq_ite (fun h4 => ?_) (fun h4 => ?_)
  · refine zq_go zt_X8_person 1 [] 19 [(0, .ref 0), (1, .int v1), (2, .int v2)] [.int (-2)] μ0 rfl trivial ?_
    exact zq_retn zt_X8_person rfl rfl (⟨rfl, hC, zq_fr.rf⟩)
  · have g0 := zb_p h4
    refine zq_go zt_X8_person 3 [] 11 [(0, .ref 0), (1, .int v1), (2, .int v2)] [.int (nI 2), .int (nI 0), .int v2] μ0 rfl trivial ?_
    refine zq_call zt_X8_person [.int v2, .int (nI 0), .int (nI 2)] [] (zs_within v2 (nI 0) (nI 2) μ0) rfl rfl ?_
    rintro _ _ ⟨rfl, rfl⟩
    refine zq_go zt_X8_person 1 [] (if ¬ (zb (0 ≤ v2 ∧ v2 ≤ nI 2)) = 0 then 20 else 17) [(0, .ref 0), (1, .int v1), (2, .int v2)] [] μ0 rfl trivial ?_
    refine zq_ite (fun h12 => ?_) (fun h12 => ?_)
    · have g1 := zb_p h12
      exact absurd ⟨g0, g1⟩ hg
    · refine zq_go zt_X8_person 1 [] 19 [(0, .ref 0), (1, .int v1), (2, .int v2)] [.int (-2)] μ0 rfl trivial ?_
      exact zq_retn zt_X8_person rfl rfl (⟨rfl, hC, zq_fr.rf⟩)
set_option maxRecDepth 100000 in
set_option maxHeartbeats 400000 in
theorem zs_personm_b {τ : zTd} {S : zES} {H : zSH} {μ0 : zq_Me} (v1 v2 : Int32) (hg : ¬ ((0 ≤ v1 ∧ v1 ≤ nI (ynp τ) - nI 1) ∧ (0 ≤ v2 ∧ v2 ≤ nI 2))) (hM : zIm τ S H μ0) : zq_Wp zn_X9_person 0 [(0, .ref 50), (1, .int v1), (2, .int v2)] [] μ0 (zRm' (.int (-2)) τ S H μ0) := by
  refine zq_go zt_X9_person 2 [] 2 [(0, .ref 50), (1, .int v1), (2, .int v2)] [.int v1, .ref 50] μ0 rfl trivial ?_
  refine zq_call zt_X9_person [.ref 50, .int v1] [] (zs_isPersonm v1 hM) rfl rfl ?_
  rintro _ μ1 ⟨rfl, m1, f1, d1, p1⟩
  refine zq_go zt_X9_person 1 [] (if (zb (0 ≤ v1 ∧ v1 ≤ nI (ynp τ) - nI 1)) = 0 then 24 else 8) [(0, .ref 50), (1, .int v1), (2, .int v2)] [] μ1 rfl trivial ?_
  refine zq_ite (fun h4 => ?_) (fun h4 => ?_)
  · refine zq_go zt_X9_person 1 [] 26 [(0, .ref 50), (1, .int v1), (2, .int v2)] [.int (-2)] μ1 rfl trivial ?_
    exact zq_retn zt_X9_person rfl rfl (⟨rfl, m1, f1⟩)
  · have g0 := zb_p h4
    refine zq_go zt_X9_person 1 [] 9 [(0, .ref 50), (1, .int v1), (2, .int v2)] [.int v2] μ1 rfl trivial ?_
    refine zq_call zt_X9_person [.int v2] [] (zs_isThreem v2 μ1) rfl rfl ?_
    rintro _ _ ⟨rfl, rfl⟩
    refine zq_go zt_X9_person 1 [] (if (zb (0 ≤ v2 ∧ v2 ≤ nI 2)) = 0 then 24 else 15) [(0, .ref 50), (1, .int v1), (2, .int v2)] [] μ1 rfl trivial ?_
    refine zq_ite (fun h12 => ?_) (fun h12 => ?_)
    · refine zq_go zt_X9_person 1 [] 26 [(0, .ref 50), (1, .int v1), (2, .int v2)] [.int (-2)] μ1 rfl trivial ?_
      exact zq_retn zt_X9_person rfl rfl (⟨rfl, m1, f1⟩)
    · have g1 := zb_p h12
      exact absurd ⟨g0, g1⟩ hg
theorem zo_door (v1 v2 : Int32) : zop zn_X8_door [(0, .ref 0), (1, .int v1), (2, .int v2)] zn_X9_door [(0, .ref 50), (1, .int v1), (2, .int v2)] := by
  intro τ S H μ hC hM
  by_cases hg : (0 ≤ v1 ∧ v1 ≤ nI (ynd τ) - nI 1) ∧ (0 ≤ v2 ∧ v2 ≤ nI 1)
  · have h9 := hC.2.1.1.1
    obtain ⟨d, ld, rfl⟩ := ypx (by omega) hg.1
    obtain ⟨w, lw, rfl⟩ := yix (by decide) hg.2
    exact ⟨_, τ, S, H, zs_door ld lw hC, fun _ h => zs_doorm ld lw h⟩
  · exact ⟨_, τ, S, H, zs_door_b v1 v2 hg hC, fun _ h => zs_doorm_b v1 v2 hg h⟩
theorem zo_person (v1 v2 : Int32) : zop zn_X8_person [(0, .ref 0), (1, .int v1), (2, .int v2)] zn_X9_person [(0, .ref 50), (1, .int v1), (2, .int v2)] := by
  intro τ S H μ hC hM
  by_cases hg : (0 ≤ v1 ∧ v1 ≤ nI (ynp τ) - nI 1) ∧ (0 ≤ v2 ∧ v2 ≤ nI 2)
  · have h9 := hC.2.1.2.1
    obtain ⟨p, lp, rfl⟩ := ypx (by omega) hg.1
    obtain ⟨w, lw, rfl⟩ := yix (by decide) hg.2
    exact ⟨_, τ, S, H, zs_person lp lw hC, fun _ h => zs_personm lp lw h⟩
  · exact ⟨_, τ, S, H, zs_person_b v1 v2 hg hC, fun _ h => zs_personm_b v1 v2 hg h⟩
