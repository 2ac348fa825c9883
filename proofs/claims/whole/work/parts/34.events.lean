/-! ===== events, seen: ahead, event, back, seen, forget ===== -/
theorem zIc.ch {τ : zTd} {S : zES} {H : zSH} {μ μ1 : zq_Me} (h : zIc τ S H μ) (ld : Nat) (E : zES) (hf : zq_fr [0, 11, 12, 13, 14] μ μ1) (h14 : μ1.1 0 14 = 0) (h16 : μ1.1 0 16 = -1) (h13 : μ1.1 0 13 = μ.1 0 13) (hd : zCd (τ.1, τ.2.1, ld, E) μ1) (he : zCe (τ.1, τ.2.1, ld, E) μ1) : zIc (τ.1, τ.2.1, ld, E) S H μ1 := by
  obtain ⟨a, b, d, e, f, g, o, s, k, hk⟩ := h
  have a1 : zCa τ μ1 := a.fr hf (by decide)
  have b1 : zCb τ μ1 := b.fr hf (by decide)
  have g1 : zCg τ μ1 := g.fr hf (by decide)
  have k1 : zK33 (ynd τ) (yo1 τ) (yo2 τ) μ1 := f.2.1.fr hf (by decide)
  have f1 : μ1.1 33 11 = -1 := by rw [hf.a (b := 33) (by decide)]; exact f.1
  exact ⟨a1, b1, hd, he, ⟨f1, k1, Or.inl h14⟩, g1, Or.inl h16, s.sl (by rw [hf.a (b := 20) (by decide)]) (hf.a (by decide)) (hf.a (by decide)) (hf.a (by decide)), k.sl h13 (fun b h1 h2 => hf.a (by simp; omega)), hk⟩
theorem zIm.ch {τ : zTd} {S : zES} {H : zSH} {μ μ1 : zq_Me} (h : zIm τ S H μ) (ld : Nat) (E : zES) (hf : zq_fr [50, 58, 59, 60] μ μ1) (h26 : μ1.1 50 26 = μ.1 50 26) (h36 : μ1.1 50 36 = μ.1 50 36) (hd : μ1.1 50 9 = nI ld ∧ 1 ≤ ld ∧ ld ≤ 9) (he : zEv 50 10 58 59 60 E.1 E.2.1 E.2.2.1 E.2.2.2 μ1 ∧ E.1 ≤ 8) : zIm (τ.1, τ.2.1, ld, E) S H μ1 := by
  obtain ⟨a, b, c, d, e, k⟩ := h
  have a1 := a.1.fr hf (by decide)
  have a2 := a.2.fr hf (by decide)
  refine ⟨⟨a1, a2⟩, hd, he, d.sl h26 (hf.a (by decide)) (hf.a (by decide)) (hf.a (by decide)), ⟨fun s hs => ?_, by rw [h36]; exact e.2⟩, k⟩
  rw [hf.a (b := 72) (by decide), hf.a (b := 73) (by decide), hf.a (b := 74) (by decide), hf.a (b := 75) (by decide)]
  exact e.1 s hs
theorem zIc.sn {τ : zTd} {S : zES} {H : zSH} {μ μ1 : zq_Me} (h : zIc τ S H μ) (S' : zES) (hf : zq_fr [20, 21, 22, 23] μ μ1) (hs : zSi 20 3 21 22 23 S' μ1) : zIc τ S' H μ1 := by
  obtain ⟨a, b, d, e, f, g, o, s, k, hk⟩ := h
  have q0 : μ1.1 0 = μ.1 0 := hf.a (by decide)
  exact ⟨a.fr hf (by decide), b.fr hf (by decide), ⟨by rw [q0]; exact d.1, d.2⟩, e.fr hf (by decide), f.fr (by rw [q0]) hf (by decide), g.fr hf (by decide), o.fr (by rw [q0]) (by rw [q0]) (hf.l (by decide)), hs, k.sl (by rw [q0]) (fun b h1 h2 => hf.a (by simp; omega)), hk⟩
theorem zIm.sn {τ : zTd} {S : zES} {H : zSH} {μ μ1 : zq_Me} (h : zIm τ S H μ) (S' : zES) (hf : zq_fr [50, 68, 69, 70] μ μ1) (hi : ∀ i, i ≠ 26 → μ1.1 50 i = μ.1 50 i) (hs : zSi 50 26 68 69 70 S' μ1) : zIm τ S' H μ1 := by
  obtain ⟨a, b, c, d, e, k⟩ := h
  refine ⟨⟨a.1.fr hf (by decide), a.2.fr hf (by decide)⟩, ⟨by rw [hi 9 (by decide)]; exact b.1, b.2⟩, ⟨c.1.sl (hi 10 (by decide)) (hf.a (by decide)) (hf.a (by decide)) (hf.a (by decide)), c.2⟩, hs, ⟨fun s hs => ?_, by rw [hi 36 (by decide)]; exact e.2⟩, k⟩
  rw [hf.a (b := 72) (by decide), hf.a (b := 73) (by decide), hf.a (b := 74) (by decide), hf.a (b := 75) (by decide)]
  exact e.1 s hs
/-- one more at the end of a row of threes -/
def ypu (E : zES) (k h n : Nat) : zES := (E.1 + 1, fun i => if i = E.1 then k else E.2.1 i, fun i => if i = E.1 then h else E.2.2.1 i, fun i => if i = E.1 then n else E.2.2.2 i)
def yek9 (k h n : Nat) : Prop := k ≤ 1 ∧ h < 24 ∧ n < 12 ∧ (k = 0 → n < 8)
theorem zEv.pu {cs sl ck ch cn : Nat} {E : zES} {μ μ1 : zq_Me} (h : zEv cs sl ck ch cn E.1 E.2.1 E.2.2.1 E.2.2.2 μ) (hl : E.1 < 9) {k x n : Nat} (hk : yek9 k x n) (h1 : μ1.1 cs sl = nI (E.1 + 1)) (h2 : ∀ i, μ1.1 ck i = if i = E.1 then nI k else μ.1 ck i) (h3 : ∀ i, μ1.1 ch i = if i = E.1 then nI x else μ.1 ch i) (h4 : ∀ i, μ1.1 cn i = if i = E.1 then nI n else μ.1 cn i) : zEv cs sl ck ch cn (ypu E k x n).1 (ypu E k x n).2.1 (ypu E k x n).2.2.1 (ypu E k x n).2.2.2 μ1 := by
  refine ⟨by show E.1 + 1 ≤ 9; omega, h1, fun e he => ?_⟩
  have he : e < E.1 + 1 := he
  rw [h2, h3, h4]
  show _ = nI (if e = E.1 then k else E.2.1 e) ∧ _ = nI (if e = E.1 then x else E.2.2.1 e) ∧ _ = nI (if e = E.1 then n else E.2.2.2 e) ∧ (if e = E.1 then k else E.2.1 e) ≤ 1 ∧ (if e = E.1 then x else E.2.2.1 e) < 24 ∧ (if e = E.1 then n else E.2.2.2 e) < 12 ∧ ((if e = E.1 then k else E.2.1 e) = 0 → (if e = E.1 then n else E.2.2.2 e) < 8)
  by_cases q : e = E.1
  · simp only [if_pos q]
    exact ⟨trivial, trivial, trivial, hk⟩
  · simp only [if_neg q]
    exact h.2.2 e (by omega)
theorem zSi.pu {cs sl ch cw cr : Nat} {S : zES} {μ μ1 : zq_Me} (h : zSi cs sl ch cw cr S μ) (hl : S.1 < 8) {x p r : Nat} (hk : x < 24 ∧ p < 8 ∧ r < 8) (h1 : μ1.1 cs sl = nI (S.1 + 1)) (h2 : ∀ i, μ1.1 ch i = if i = S.1 then nI x else μ.1 ch i) (h3 : ∀ i, μ1.1 cw i = if i = S.1 then nI p else μ.1 cw i) (h4 : ∀ i, μ1.1 cr i = if i = S.1 then nI r else μ.1 cr i) : zSi cs sl ch cw cr (ypu S x p r) μ1 := by
  refine ⟨by show S.1 + 1 ≤ 8; omega, h1, fun e he => ?_⟩
  have he : e < S.1 + 1 := he
  rw [h2, h3, h4]
  show _ = nI (if e = S.1 then x else S.2.1 e) ∧ (if e = S.1 then x else S.2.1 e) < 24 ∧ _ = nI (if e = S.1 then p else S.2.2.1 e) ∧ (if e = S.1 then p else S.2.2.1 e) < 8 ∧ _ = nI (if e = S.1 then r else S.2.2.2 e) ∧ (if e = S.1 then r else S.2.2.2 e) < 8
  by_cases q : e = S.1
  · simp only [if_pos q]
    exact ⟨trivial, hk.1, trivial, hk.2.1, trivial, hk.2.2⟩
  · simp only [if_neg q]
    exact h.2.2 e (by omega)
set_option maxRecDepth 100000 in
set_option maxHeartbeats 400000 in
theorem zs_ahead {n : Nat} (h1 : 1 ≤ n) (h9 : n ≤ 9) {τ : zTd} {S : zES} {H : zSH} {μ0 : zq_Me} (hC : zIc τ S H μ0) : zq_Wp zn_X8_ahead 0 [(0, .ref 0), (1, .int (nI n))] [] μ0 (zRc (.int (nI (yld τ))) (τ.1, τ.2.1, n, τ.2.2.2) S H μ0) := by
  refine zq_go zt_X8_ahead 3 [] 4 [(0, .ref 0), (1, .int (nI n))] [.int (nI 9), .int (nI 1), .int (nI n)] μ0 rfl trivial ?_
  refine zq_call zt_X8_ahead [.int (nI n), .int (nI 1), .int (nI 9)] [] (zs_within (nI n) (nI 1) (nI 9) μ0) rfl rfl ?_
  rintro _ _ ⟨rfl, rfl⟩
  refine zq_go zt_X8_ahead 1 [] (if ¬ (zb (nI 1 ≤ nI n ∧ nI n ≤ nI 9)) = 0 then 13 else 10) [(0, .ref 0), (1, .int (nI n))] [] μ0 rfl trivial ?_
  rw [if_pos (zb_n ⟨by rw [zn_le (by decide) (by omega)]; omega, by rw [zn_le (by omega) (by decide)]; omega⟩)]
  refine zq_go zt_X8_ahead 7 [] 24 [(0, .ref 0), (1, .int (nI n)), (2, .int (μ0.1 0 12))] [.ref 0] (zq_u1 μ0 0 12 (nI n)) rfl trivial ?_
  rw [hC.2.2.1.1]
  obtain ⟨μ1, hμ1⟩ : ∃ k9 : zq_Me, k9 = (zq_u1 μ0 0 12 (nI n)) := ⟨_, rfl⟩
  rw [← hμ1]
  refine zq_call zt_X8_ahead [.ref 0] [] (zs_changed μ1) rfl rfl ?_
  rintro _ μ2 ⟨rfl, f2, s14, s16, s2⟩
  refine zq_go zt_X8_ahead 1 [] 28 [(0, .ref 0), (1, .int (nI n)), (2, .int (nI (yld τ)))] [.int (nI (yld τ))] μ2 rfl trivial ?_
  have f1 : zq_fr [0] μ0 μ1 := by rw [hμ1]; exact zq_fr.rf.u1 (by simp)
  have f9 : zq_fr [0, 11, 12, 13, 14] μ0 μ2 := (f1.tr f2).wk (by simp)
  have hl : μ2.1 0 12 = nI n := by rw [s2 12 (by decide) (by decide), hμ1, zq_u1_s]
  have h13 : μ2.1 0 13 = μ0.1 0 13 := by rw [s2 13 (by decide) (by decide), hμ1, zq_u1_o2 (by decide)]
  have he : zCe (τ.1, τ.2.1, n, τ.2.2.2) μ2 := (hC.2.2.2.1).fr (f1.tr f2) (by decide)
  have hI := hC.ch n τ.2.2.2 f9 s14 s16 h13 ⟨hl, h1, h9⟩ he
  exact zq_retn zt_X8_ahead rfl rfl (⟨rfl, hI, f9.wk (by simp +contextual [zSC])⟩)
set_option maxRecDepth 100000 in
set_option maxHeartbeats 400000 in
theorem zs_aheadm {n : Nat} (h1 : 1 ≤ n) (h9 : n ≤ 9) {τ : zTd} {S : zES} {H : zSH} {μ0 : zq_Me} (hM : zIm τ S H μ0) : zq_Wp zn_X9_ahead 0 [(0, .ref 50), (1, .int (nI n))] [] μ0 (zRm' (.int (nI (yld τ))) (τ.1, τ.2.1, n, τ.2.2.2) S H μ0) := by
  refine zq_go zt_X9_ahead 3 [] 4 [(0, .ref 50), (1, .int (nI n))] [.int (nI 9), .int (nI 1), .int (nI n)] μ0 rfl trivial ?_
  refine zq_call zt_X9_ahead [.int (nI n), .int (nI 1), .int (nI 9)] [] (zs_in (nI n) (nI 1) (nI 9) μ0) rfl rfl ?_
  rintro _ _ ⟨rfl, rfl⟩
  refine zq_go zt_X9_ahead 1 [] (if ¬ (zb (nI 1 ≤ nI n ∧ nI n ≤ nI 9)) = 0 then 13 else 10) [(0, .ref 50), (1, .int (nI n))] [] μ0 rfl trivial ?_
  rw [if_pos (zb_n ⟨by rw [zn_le (by decide) (by omega)]; omega, by rw [zn_le (by omega) (by decide)]; omega⟩)]
  refine zq_go zt_X9_ahead 7 [] 24 [(0, .ref 50), (1, .int (nI n)), (2, .int (μ0.1 50 9))] [.int (μ0.1 50 9)] (zq_u1 μ0 50 9 (nI n)) rfl trivial ?_
  rw [hM.2.1.1]
  obtain ⟨μ1, hμ1⟩ : ∃ k9 : zq_Me, k9 = (zq_u1 μ0 50 9 (nI n)) := ⟨_, rfl⟩
  rw [← hμ1]
  have f1 : zq_fr [50] μ0 μ1 := by rw [hμ1]; exact zq_fr.rf.u1 (by simp)
  have s1 : ∀ i, i ≠ 9 → μ1.1 50 i = μ0.1 50 i := fun i hi => by rw [hμ1, zq_u1_o2 hi]
  have he := hM.2.2.1
  have hI := hM.ch n τ.2.2.2 (f1.wk (by simp)) (s1 26 (by decide)) (s1 36 (by decide)) ⟨by rw [hμ1, zq_u1_s], h1, h9⟩ ⟨he.1.sl (s1 10 (by decide)) (f1.a (by decide)) (f1.a (by decide)) (f1.a (by decide)), he.2⟩
  exact zq_retn zt_X9_ahead rfl rfl (⟨rfl, hI, f1.wk (by simp [zSM])⟩)
set_option maxRecDepth 100000 in
set_option maxHeartbeats 400000 in
theorem zs_ahead_b (v1 : Int32) (hg : ¬ (nI 1 ≤ v1 ∧ v1 ≤ nI 9)) {τ : zTd} {S : zES} {H : zSH} {μ0 : zq_Me} (hC : zIc τ S H μ0) : zq_Wp zn_X8_ahead 0 [(0, .ref 0), (1, .int v1)] [] μ0 (zRc (.int (-2)) τ S H μ0) := by
  refine zq_go zt_X8_ahead 3 [] 4 [(0, .ref 0), (1, .int v1)] [.int (nI 9), .int (nI 1), .int v1] μ0 rfl trivial ?_
  refine zq_call zt_X8_ahead [.int v1, .int (nI 1), .int (nI 9)] [] (zs_within v1 (nI 1) (nI 9) μ0) rfl rfl ?_
  rintro _ _ ⟨rfl, rfl⟩
  refine zq_go zt_X8_ahead 1 [] (if ¬ (zb (nI 1 ≤ v1 ∧ v1 ≤ nI 9)) = 0 then 13 else 10) [(0, .ref 0), (1, .int v1)] [] μ0 rfl trivial ?_
  rw [if_neg (fun q => hg (zb_p q))]
  refine zq_go zt_X8_ahead 1 [] 12 [(0, .ref 0), (1, .int v1)] [.int (-2)] μ0 rfl trivial ?_
  exact zq_retn zt_X8_ahead rfl rfl (⟨rfl, hC, zq_fr.rf⟩)
set_option maxRecDepth 100000 in
set_option maxHeartbeats 400000 in
theorem zs_aheadm_b (v1 : Int32) (hg : ¬ (nI 1 ≤ v1 ∧ v1 ≤ nI 9)) {τ : zTd} {S : zES} {H : zSH} {μ0 : zq_Me} (hM : zIm τ S H μ0) : zq_Wp zn_X9_ahead 0 [(0, .ref 50), (1, .int v1)] [] μ0 (zRm' (.int (-2)) τ S H μ0) := by
  refine zq_go zt_X9_ahead 3 [] 4 [(0, .ref 50), (1, .int v1)] [.int (nI 9), .int (nI 1), .int v1] μ0 rfl trivial ?_
  refine zq_call zt_X9_ahead [.int v1, .int (nI 1), .int (nI 9)] [] (zs_in v1 (nI 1) (nI 9) μ0) rfl rfl ?_
  rintro _ _ ⟨rfl, rfl⟩
  refine zq_go zt_X9_ahead 1 [] (if ¬ (zb (nI 1 ≤ v1 ∧ v1 ≤ nI 9)) = 0 then 13 else 10) [(0, .ref 50), (1, .int v1)] [] μ0 rfl trivial ?_
  rw [if_neg (fun q => hg (zb_p q))]
  refine zq_go zt_X9_ahead 1 [] 12 [(0, .ref 50), (1, .int v1)] [.int (-2)] μ0 rfl trivial ?_
  exact zq_retn zt_X9_ahead rfl rfl (⟨rfl, hM, zq_fr.rf⟩)
theorem zo_ahead (v1 : Int32) : zop zn_X8_ahead [(0, .ref 0), (1, .int v1)] zn_X9_ahead [(0, .ref 50), (1, .int v1)] := by
  intro τ S H μ hC hM
  by_cases hg : nI 1 ≤ v1 ∧ v1 ≤ nI 9
  · obtain ⟨n, ln, rfl⟩ := yix (by decide) ⟨Int32.le_trans (by decide) hg.1, hg.2⟩
    have h1 : 1 ≤ n := by
      have := hg.1
      rw [zn_le (by decide) (by omega)] at this
      exact this
    exact ⟨_, _, S, H, zs_ahead h1 ln hC, fun _ h => zs_aheadm h1 ln h⟩
  · exact ⟨_, τ, S, H, zs_ahead_b v1 hg hC, fun _ h => zs_aheadm_b v1 hg h⟩
set_option maxRecDepth 100000 in
set_option maxHeartbeats 400000 in
theorem zs_add11 (x y z : Int32) {n : Nat} (hl : n < 9) {μ0 : zq_Me} (hn : μ0.1 11 3 = nI n) : zq_Wp zn_X1_add 0 [(0, .ref 11), (1, .int x), (2, .int y), (3, .int z)] [] μ0 (fun r μ => r = none ∧ zq_fr [11, 12, 13, 14] μ0 μ ∧ μ.1 11 3 = nI (n + 1) ∧ (∀ i, i ≠ 3 → μ.1 11 i = μ0.1 11 i) ∧ (∀ i, μ.1 12 i = if i = n then x else μ0.1 12 i) ∧ (∀ i, μ.1 13 i = if i = n then y else μ0.1 13 i) ∧ ∀ i, μ.1 14 i = if i = n then z else μ0.1 14 i) := by
  refine zq_go zt_X1_add 3 [] (if (μ0.1 11 3) < 0 then 56 else 7) [(0, .ref 11), (1, .int x), (2, .int y), (3, .int z)] [] μ0 rfl trivial ?_
  rw [hn]
  rw [if_neg (zn_notneg (by omega))]
  refine zq_go zt_X1_add 4 [] (if (nI 9) ≤ (μ0.1 11 3) then 56 else 16) [(0, .ref 11), (1, .int x), (2, .int y), (3, .int z)] [] μ0 rfl trivial ?_
  rw [hn]
  rw [if_neg (by rw [zn_le (by omega) (by omega)]; omega)]
  refine zq_go zt_X1_add 24 [vp_in (μ0.1 11 3) 9, vp_in (μ0.1 11 3) 9, vp_in (μ0.1 11 3) 9] 56 [(0, .ref 11), (1, .int x), (2, .int y), (3, .int z)] [] (zq_u1 (zq_u1 (zq_u1 (zq_u1 μ0 12 ((μ0.1 11 3).toNatClampNeg) x) 13 ((μ0.1 11 3).toNatClampNeg) y) 14 ((μ0.1 11 3).toNatClampNeg) z) 11 3 ((μ0.1 11 3) + (nI 1))) rfl ⟨zn_in (k := n) (by rw [hn]) (by omega) (by decide), ⟨zn_in (k := n) (by rw [hn]) (by omega) (by decide), ⟨zn_in (k := n) (by rw [hn]) (by omega) (by decide), trivial⟩⟩⟩ ?_
  rw [hn, zn_cl (n := n) (by omega), zn_add n 1]
  exact zq_retn zt_X1_add rfl rfl (⟨rfl, (((zq_fr.rf.u1 (by simp)).u1 (by simp)).u1 (by simp)).u1 (by simp), by rw [zq_u1_s], fun i hi => by rw [zq_u1_o2 hi, zq_u1_ne (by decide), zq_u1_ne (by decide), zq_u1_ne (by decide)], fun i => by rw [zq_u1_ne (by decide), zq_u1_ne (by decide), zq_u1_ne (by decide), zq_u1_rd], fun i => by rw [zq_u1_ne (by decide), zq_u1_ne (by decide), zq_u1_rd, zq_u1_ne (by decide)], fun i => by rw [zq_u1_ne (by decide), zq_u1_rd, zq_u1_ne (by decide), zq_u1_ne (by decide)]⟩)
set_option maxRecDepth 100000 in
set_option maxHeartbeats 400000 in
theorem zs_add15 (x y z : Int32) {n : Nat} (hl : n < 9) {μ0 : zq_Me} (hn : μ0.1 15 3 = nI n) : zq_Wp zn_X1_add 0 [(0, .ref 15), (1, .int x), (2, .int y), (3, .int z)] [] μ0 (fun r μ => r = none ∧ zq_fr [15, 16, 17, 18] μ0 μ ∧ μ.1 15 3 = nI (n + 1) ∧ (∀ i, i ≠ 3 → μ.1 15 i = μ0.1 15 i) ∧ (∀ i, μ.1 16 i = if i = n then x else μ0.1 16 i) ∧ (∀ i, μ.1 17 i = if i = n then y else μ0.1 17 i) ∧ ∀ i, μ.1 18 i = if i = n then z else μ0.1 18 i) := by
  refine zq_go zt_X1_add 3 [] (if (μ0.1 15 3) < 0 then 56 else 7) [(0, .ref 15), (1, .int x), (2, .int y), (3, .int z)] [] μ0 rfl trivial ?_
  rw [hn]
  rw [if_neg (zn_notneg (by omega))]
  refine zq_go zt_X1_add 4 [] (if (nI 9) ≤ (μ0.1 15 3) then 56 else 16) [(0, .ref 15), (1, .int x), (2, .int y), (3, .int z)] [] μ0 rfl trivial ?_
  rw [hn]
  rw [if_neg (by rw [zn_le (by omega) (by omega)]; omega)]
  refine zq_go zt_X1_add 24 [vp_in (μ0.1 15 3) 9, vp_in (μ0.1 15 3) 9, vp_in (μ0.1 15 3) 9] 56 [(0, .ref 15), (1, .int x), (2, .int y), (3, .int z)] [] (zq_u1 (zq_u1 (zq_u1 (zq_u1 μ0 16 ((μ0.1 15 3).toNatClampNeg) x) 17 ((μ0.1 15 3).toNatClampNeg) y) 18 ((μ0.1 15 3).toNatClampNeg) z) 15 3 ((μ0.1 15 3) + (nI 1))) rfl ⟨zn_in (k := n) (by rw [hn]) (by omega) (by decide), ⟨zn_in (k := n) (by rw [hn]) (by omega) (by decide), ⟨zn_in (k := n) (by rw [hn]) (by omega) (by decide), trivial⟩⟩⟩ ?_
  rw [hn, zn_cl (n := n) (by omega), zn_add n 1]
  exact zq_retn zt_X1_add rfl rfl (⟨rfl, (((zq_fr.rf.u1 (by simp)).u1 (by simp)).u1 (by simp)).u1 (by simp), by rw [zq_u1_s], fun i hi => by rw [zq_u1_o2 hi, zq_u1_ne (by decide), zq_u1_ne (by decide), zq_u1_ne (by decide)], fun i => by rw [zq_u1_ne (by decide), zq_u1_ne (by decide), zq_u1_ne (by decide), zq_u1_rd], fun i => by rw [zq_u1_ne (by decide), zq_u1_ne (by decide), zq_u1_rd, zq_u1_ne (by decide)], fun i => by rw [zq_u1_ne (by decide), zq_u1_rd, zq_u1_ne (by decide), zq_u1_ne (by decide)]⟩)
set_option maxRecDepth 100000 in
set_option maxHeartbeats 400000 in
theorem zs_add20 (x y z : Int32) {n : Nat} (hl : n < 8) {μ0 : zq_Me} (hn : μ0.1 20 3 = nI n) : zq_Wp zn_X5_add 0 [(0, .ref 20), (1, .int x), (2, .int y), (3, .int z)] [] μ0 (fun r μ => r = none ∧ zq_fr [20, 21, 22, 23] μ0 μ ∧ μ.1 20 3 = nI (n + 1) ∧ (∀ i, i ≠ 3 → μ.1 20 i = μ0.1 20 i) ∧ (∀ i, μ.1 21 i = if i = n then x else μ0.1 21 i) ∧ (∀ i, μ.1 22 i = if i = n then y else μ0.1 22 i) ∧ ∀ i, μ.1 23 i = if i = n then z else μ0.1 23 i) := by
  refine zq_go zt_X5_add 3 [] (if (μ0.1 20 3) < 0 then 56 else 7) [(0, .ref 20), (1, .int x), (2, .int y), (3, .int z)] [] μ0 rfl trivial ?_
  rw [hn]
  rw [if_neg (zn_notneg (by omega))]
  refine zq_go zt_X5_add 4 [] (if (nI 8) ≤ (μ0.1 20 3) then 56 else 16) [(0, .ref 20), (1, .int x), (2, .int y), (3, .int z)] [] μ0 rfl trivial ?_
  rw [hn]
  rw [if_neg (by rw [zn_le (by omega) (by omega)]; omega)]
  refine zq_go zt_X5_add 24 [vp_in (μ0.1 20 3) 8, vp_in (μ0.1 20 3) 8, vp_in (μ0.1 20 3) 8] 56 [(0, .ref 20), (1, .int x), (2, .int y), (3, .int z)] [] (zq_u1 (zq_u1 (zq_u1 (zq_u1 μ0 21 ((μ0.1 20 3).toNatClampNeg) x) 22 ((μ0.1 20 3).toNatClampNeg) y) 23 ((μ0.1 20 3).toNatClampNeg) z) 20 3 ((μ0.1 20 3) + (nI 1))) rfl ⟨zn_in (k := n) (by rw [hn]) (by omega) (by decide), ⟨zn_in (k := n) (by rw [hn]) (by omega) (by decide), ⟨zn_in (k := n) (by rw [hn]) (by omega) (by decide), trivial⟩⟩⟩ ?_
  rw [hn, zn_cl (n := n) (by omega), zn_add n 1]
  exact zq_retn zt_X5_add rfl rfl (⟨rfl, (((zq_fr.rf.u1 (by simp)).u1 (by simp)).u1 (by simp)).u1 (by simp), by rw [zq_u1_s], fun i hi => by rw [zq_u1_o2 hi, zq_u1_ne (by decide), zq_u1_ne (by decide), zq_u1_ne (by decide)], fun i => by rw [zq_u1_ne (by decide), zq_u1_ne (by decide), zq_u1_ne (by decide), zq_u1_rd], fun i => by rw [zq_u1_ne (by decide), zq_u1_ne (by decide), zq_u1_rd, zq_u1_ne (by decide)], fun i => by rw [zq_u1_ne (by decide), zq_u1_rd, zq_u1_ne (by decide), zq_u1_ne (by decide)]⟩)
def zPE (v1 v2 v3 : Int32) : Prop := (0 ≤ v1 ∧ v1 ≤ nI 1) ∧ (0 ≤ v2 ∧ v2 ≤ nI 23) ∧ (0 ≤ v3 ∧ v3 ≤ (if v1 = 0 then nI 7 else nI 11))
theorem zPE_of {v1 v2 v3 : Int32} (h : zPE v1 v2 v3) : ∃ k x n, v1 = nI k ∧ v2 = nI x ∧ v3 = nI n ∧ yek9 k x n := by
  obtain ⟨a, b, c⟩ := h
  obtain ⟨k, hk, rfl⟩ := yix (by decide) a
  obtain ⟨x, hx, rfl⟩ := yix (by decide) b
  by_cases q : k = 0
  · subst q
    rw [if_pos (show nI 0 = 0 from rfl)] at c
    obtain ⟨n, hn, rfl⟩ := yix (by decide) c
    exact ⟨0, x, n, rfl, rfl, rfl, by omega, by omega, by omega, fun _ => by omega⟩
  · rw [if_neg (fun e => q (by rw [show (0 : Int32) = nI 0 from rfl, zn_eq (by omega) (by omega)] at e; exact e))] at c
    obtain ⟨n, hn, rfl⟩ := yix (by decide) c
    exact ⟨k, x, n, rfl, rfl, rfl, by omega, by omega, by omega, fun h => absurd h q⟩
set_option maxRecDepth 100000 in
set_option maxHeartbeats 400000 in
theorem zs_isEvent (v1 v2 v3 : Int32) (μ : zq_Me) : zq_Wp zn_X8_isEvent 0 [(0, .int v1), (1, .int v2), (2, .int v3)] [] μ (fun r μ1 => ∃ b : Int32, r = some (.int b) ∧ μ = μ1 ∧ (b = 0 ∨ b = 1) ∧ (b = 0 ↔ ¬ zPE v1 v2 v3)) := by
  refine zq_go zt_X8_isEvent 2 [] (if ¬ v1 = 0 then 9 else 4) [(0, .int v1), (1, .int v2), (2, .int v3)] [] μ rfl trivial ?_
  refine zq_ite (fun h1 => ?_) (fun h1 => ?_)
  · refine zq_go zt_X8_isEvent 5 [] 15 [(0, .int v1), (1, .int v2), (2, .int v3), (3, .int (nI 11))] [.int (nI 1), .int (nI 0), .int v1] μ rfl trivial ?_
    have e9 : (if v1 = 0 then nI 7 else nI 11) = nI 11 := if_neg h1
    refine zq_call zt_X8_isEvent [.int v1, .int (nI 0), .int (nI 1)] [] (zs_within v1 (nI 0) (nI 1) μ) rfl rfl ?_
    rintro _ _ ⟨rfl, rfl⟩
    refine zq_go zt_X8_isEvent 1 [] (if (zb (0 ≤ v1 ∧ v1 ≤ nI 1)) = 0 then 41 else 21) [(0, .int v1), (1, .int v2), (2, .int v3), (3, .int (nI 11))] [] μ rfl trivial ?_
    refine zq_ite (fun h7 => ?_) (fun h7 => ?_)
    · refine zq_go zt_X8_isEvent 1 [] 42 [(0, .int v1), (1, .int v2), (2, .int v3), (3, .int (nI 11))] [.int (nI 0)] μ rfl trivial ?_
      exact zq_retz zt_X8_isEvent rfl (Or.inl rfl) (⟨_, rfl, rfl, Or.inl rfl, ⟨fun _ q => zb_0.mp h7 q.1, fun _ => rfl⟩⟩)
    · have g1 := zb_p h7
      refine zq_go zt_X8_isEvent 1 [] 22 [(0, .int v1), (1, .int v2), (2, .int v3), (3, .int (nI 11))] [.int v2] μ rfl trivial ?_
      refine zq_call zt_X8_isEvent [.int v2] [] (zs_isHour v2 μ) rfl rfl ?_
      rintro _ _ ⟨rfl, rfl⟩
      refine zq_go zt_X8_isEvent 1 [] (if (zb (0 ≤ v2 ∧ v2 ≤ nI 23)) = 0 then 41 else 28) [(0, .int v1), (1, .int v2), (2, .int v3), (3, .int (nI 11))] [] μ rfl trivial ?_
      refine zq_ite (fun h15 => ?_) (fun h15 => ?_)
      · refine zq_go zt_X8_isEvent 1 [] 42 [(0, .int v1), (1, .int v2), (2, .int v3), (3, .int (nI 11))] [.int (nI 0)] μ rfl trivial ?_
        exact zq_retz zt_X8_isEvent rfl (Or.inl rfl) (⟨_, rfl, rfl, Or.inl rfl, ⟨fun _ q => zb_0.mp h15 q.2.1, fun _ => rfl⟩⟩)
      · have g2 := zb_p h15
        refine zq_go zt_X8_isEvent 3 [] 31 [(0, .int v1), (1, .int v2), (2, .int v3), (3, .int (nI 11))] [.int (nI 11), .int (nI 0), .int v3] μ rfl trivial ?_
        refine zq_call zt_X8_isEvent [.int v3, .int (nI 0), .int (nI 11)] [] (zs_within v3 (nI 0) (nI 11) μ) rfl rfl ?_
        rintro _ _ ⟨rfl, rfl⟩
        refine zq_go zt_X8_isEvent 1 [] (if (zb (0 ≤ v3 ∧ v3 ≤ nI 11)) = 0 then 41 else 37) [(0, .int v1), (1, .int v2), (2, .int v3), (3, .int (nI 11))] [] μ rfl trivial ?_
        refine zq_ite (fun h23 => ?_) (fun h23 => ?_)
        · refine zq_go zt_X8_isEvent 1 [] 42 [(0, .int v1), (1, .int v2), (2, .int v3), (3, .int (nI 11))] [.int (nI 0)] μ rfl trivial ?_
          exact zq_retz zt_X8_isEvent rfl (Or.inl rfl) (⟨_, rfl, rfl, Or.inl rfl, ⟨fun _ q => zb_0.mp h23 (by have q3 := q.2.2; rw [e9] at q3; exact q3), fun _ => rfl⟩⟩)
        · have g3 := zb_p h23
          refine zq_go zt_X8_isEvent 2 [] 42 [(0, .int v1), (1, .int v2), (2, .int v3), (3, .int (nI 11))] [.int (nI 1)] μ rfl trivial ?_
          exact zq_retz zt_X8_isEvent rfl (Or.inr rfl) (⟨_, rfl, rfl, Or.inr rfl, ⟨fun q => absurd q (by decide), fun q => absurd ⟨g1, g2, by rw [e9]; exact g3⟩ q⟩⟩)
  · refine zq_go zt_X8_isEvent 2 [] 11 [(0, .int v1), (1, .int v2), (2, .int v3)] [.int (nI 7)] μ rfl trivial ?_
    refine zq_go zt_X8_isEvent 4 [] 15 [(0, .int v1), (1, .int v2), (2, .int v3), (3, .int (nI 7))] [.int (nI 1), .int (nI 0), .int v1] μ rfl trivial ?_
    have e9 : (if v1 = 0 then nI 7 else nI 11) = nI 7 := if_pos (Classical.not_not.mp h1)
    refine zq_call zt_X8_isEvent [.int v1, .int (nI 0), .int (nI 1)] [] (zs_within v1 (nI 0) (nI 1) μ) rfl rfl ?_
    rintro _ _ ⟨rfl, rfl⟩
    refine zq_go zt_X8_isEvent 1 [] (if (zb (0 ≤ v1 ∧ v1 ≤ nI 1)) = 0 then 41 else 21) [(0, .int v1), (1, .int v2), (2, .int v3), (3, .int (nI 7))] [] μ rfl trivial ?_
    refine zq_ite (fun h35 => ?_) (fun h35 => ?_)
    · refine zq_go zt_X8_isEvent 1 [] 42 [(0, .int v1), (1, .int v2), (2, .int v3), (3, .int (nI 7))] [.int (nI 0)] μ rfl trivial ?_
      exact zq_retz zt_X8_isEvent rfl (Or.inl rfl) (⟨_, rfl, rfl, Or.inl rfl, ⟨fun _ q => zb_0.mp h35 q.1, fun _ => rfl⟩⟩)
    · have g1 := zb_p h35
      refine zq_go zt_X8_isEvent 1 [] 22 [(0, .int v1), (1, .int v2), (2, .int v3), (3, .int (nI 7))] [.int v2] μ rfl trivial ?_
      refine zq_call zt_X8_isEvent [.int v2] [] (zs_isHour v2 μ) rfl rfl ?_
      rintro _ _ ⟨rfl, rfl⟩
      refine zq_go zt_X8_isEvent 1 [] (if (zb (0 ≤ v2 ∧ v2 ≤ nI 23)) = 0 then 41 else 28) [(0, .int v1), (1, .int v2), (2, .int v3), (3, .int (nI 7))] [] μ rfl trivial ?_
      refine zq_ite (fun h43 => ?_) (fun h43 => ?_)
      · refine zq_go zt_X8_isEvent 1 [] 42 [(0, .int v1), (1, .int v2), (2, .int v3), (3, .int (nI 7))] [.int (nI 0)] μ rfl trivial ?_
        exact zq_retz zt_X8_isEvent rfl (Or.inl rfl) (⟨_, rfl, rfl, Or.inl rfl, ⟨fun _ q => zb_0.mp h43 q.2.1, fun _ => rfl⟩⟩)
      · have g2 := zb_p h43
        refine zq_go zt_X8_isEvent 3 [] 31 [(0, .int v1), (1, .int v2), (2, .int v3), (3, .int (nI 7))] [.int (nI 7), .int (nI 0), .int v3] μ rfl trivial ?_
        refine zq_call zt_X8_isEvent [.int v3, .int (nI 0), .int (nI 7)] [] (zs_within v3 (nI 0) (nI 7) μ) rfl rfl ?_
        rintro _ _ ⟨rfl, rfl⟩
        refine zq_go zt_X8_isEvent 1 [] (if (zb (0 ≤ v3 ∧ v3 ≤ nI 7)) = 0 then 41 else 37) [(0, .int v1), (1, .int v2), (2, .int v3), (3, .int (nI 7))] [] μ rfl trivial ?_
        refine zq_ite (fun h51 => ?_) (fun h51 => ?_)
        · refine zq_go zt_X8_isEvent 1 [] 42 [(0, .int v1), (1, .int v2), (2, .int v3), (3, .int (nI 7))] [.int (nI 0)] μ rfl trivial ?_
          exact zq_retz zt_X8_isEvent rfl (Or.inl rfl) (⟨_, rfl, rfl, Or.inl rfl, ⟨fun _ q => zb_0.mp h51 (by have q3 := q.2.2; rw [e9] at q3; exact q3), fun _ => rfl⟩⟩)
        · have g3 := zb_p h51
          refine zq_go zt_X8_isEvent 2 [] 42 [(0, .int v1), (1, .int v2), (2, .int v3), (3, .int (nI 7))] [.int (nI 1)] μ rfl trivial ?_
          exact zq_retz zt_X8_isEvent rfl (Or.inr rfl) (⟨_, rfl, rfl, Or.inr rfl, ⟨fun q => absurd q (by decide), fun q => absurd ⟨g1, g2, by rw [e9]; exact g3⟩ q⟩⟩)
theorem zPE_n {k x n : Nat} (hk : yek9 k x n) : zPE (nI k) (nI x) (nI n) := by obtain ⟨a, b, c, d⟩ := hk; exact ⟨yin a (by decide), yin (show x ≤ 23 by omega) (by decide), by by_cases q : k = 0; (subst q; rw [if_pos (show nI 0 = 0 from rfl)]; exact yin (show n ≤ 7 by have := d rfl; omega) (by decide)); (rw [if_neg (fun e => q (by rw [show (0 : Int32) = nI 0 from rfl, zn_eq (by omega) (by omega)] at e; exact e))]; exact yin (show n ≤ 11 by omega) (by decide))⟩
set_option maxRecDepth 100000 in
set_option maxHeartbeats 400000 in
theorem zs_event {k x n : Nat} (hk : yek9 k x n) {τ : zTd} {S : zES} {H : zSH} {μ0 : zq_Me} (hE : yne τ < 8) (hC : zIc τ S H μ0) : zq_Wp zn_X8_event 0 [(0, .ref 0), (1, .int (nI k)), (2, .int (nI x)), (3, .int (nI n))] [] μ0 (zRc (.int (nI (yne τ + 1))) (τ.1, τ.2.1, τ.2.2.1, ypu τ.2.2.2 k x n) S H μ0) := by
  refine zq_go zt_X8_event 3 [] 3 [(0, .ref 0), (1, .int (nI k)), (2, .int (nI x)), (3, .int (nI n))] [.int (nI n), .int (nI x), .int (nI k)] μ0 rfl trivial ?_
  refine zq_call zt_X8_event [.int (nI k), .int (nI x), .int (nI n)] [] (zs_isEvent (nI k) (nI x) (nI n) μ0) rfl rfl ?_
  rintro _ _ ⟨b, rfl, rfl, hb, hb0⟩
  refine zq_go zt_X8_event 1 [] (if ¬ b = 0 then 12 else 9) [(0, .ref 0), (1, .int (nI k)), (2, .int (nI x)), (3, .int (nI n))] [] μ0 rfl trivial ?_
  rw [if_pos (fun q => hb0.mp q (zPE_n hk))]
  have hle := hC.2.2.2.1.2
  refine zq_go zt_X8_event 5 [] (if (μ0.1 11 3) < (nI 8) then 27 else 24) [(0, .ref 0), (1, .int (nI k)), (2, .int (nI x)), (3, .int (nI n))] [] μ0 rfl trivial ?_
  rw [hC.2.2.2.1.1.2.1]
  rw [if_pos (by rw [zn_lt (by omega) (by omega)]; omega)]
  refine zq_go zt_X8_event 5 [] 34 [(0, .ref 0), (1, .int (nI k)), (2, .int (nI x)), (3, .int (nI n))] [.int (nI n), .int (nI x), .int (nI k), .ref 11] μ0 rfl trivial ?_
  refine zq_call zt_X8_event [.ref 11, .int (nI k), .int (nI x), .int (nI n)] [] (zs_add11 (nI k) (nI x) (nI n) (n := yne τ) (by omega) hC.2.2.2.1.1.2.1) rfl rfl ?_
  rintro _ μ1 ⟨rfl, f1, s1, i1, a1, a2, a3⟩
  refine zq_go zt_X8_event 1 [] 38 [(0, .ref 0), (1, .int (nI k)), (2, .int (nI x)), (3, .int (nI n))] [.ref 0] μ1 rfl trivial ?_
  refine zq_call zt_X8_event [.ref 0] [] (zs_changed μ1) rfl rfl ?_
  rintro _ μ2 ⟨rfl, f2, s14, s16, s2⟩
  have f9 : zq_fr [0, 11, 12, 13, 14] μ0 μ2 := (f1.wk (by simp +contextual)).tr (f2.wk (by simp))
  have q0 : ∀ i, i ≠ 14 → i ≠ 16 → μ2.1 0 i = μ0.1 0 i := fun i h1 h2 => by rw [s2 i h1 h2, f1.a (b := 0) (by decide)]
  have hz : μ2.1 11 3 = nI (yne τ + 1) := by rw [f2.a (b := 11) (by decide)]; exact s1
  have he : zCe (τ.1, τ.2.1, τ.2.2.1, ypu τ.2.2.2 k x n) μ2 := ⟨zEv.pu (E := τ.2.2.2) hC.2.2.2.1.1 (show yne τ < 9 by omega) hk hz (fun i => by rw [f2.a (b := 12) (by decide)]; exact a1 i) (fun i => by rw [f2.a (b := 13) (by decide)]; exact a2 i) (fun i => by rw [f2.a (b := 14) (by decide)]; exact a3 i), show yne τ + 1 ≤ 8 by omega⟩
  have hI := hC.ch τ.2.2.1 (ypu τ.2.2.2 k x n) f9 s14 s16 (q0 13 (by decide) (by decide)) ⟨by rw [q0 12 (by decide) (by decide)]; exact hC.2.2.1.1, hC.2.2.1.2⟩ he
  refine zq_go zt_X8_event 3 [] 48 [(0, .ref 0), (1, .int (nI k)), (2, .int (nI x)), (3, .int (nI n))] [.int (μ2.1 11 3)] μ2 rfl trivial ?_
  rw [hz]
  exact zq_retn zt_X8_event rfl rfl (⟨rfl, hI, f9.wk (by simp +contextual [zSC])⟩)
set_option maxRecDepth 100000 in
set_option maxHeartbeats 400000 in
theorem zs_eventF {k x n : Nat} (hk : yek9 k x n) {τ : zTd} {S : zES} {H : zSH} {μ0 : zq_Me} (hE : yne τ = 8) (hC : zIc τ S H μ0) : zq_Wp zn_X8_event 0 [(0, .ref 0), (1, .int (nI k)), (2, .int (nI x)), (3, .int (nI n))] [] μ0 (zRc (.int (-4)) τ S H μ0) := by
  refine zq_go zt_X8_event 3 [] 3 [(0, .ref 0), (1, .int (nI k)), (2, .int (nI x)), (3, .int (nI n))] [.int (nI n), .int (nI x), .int (nI k)] μ0 rfl trivial ?_
  refine zq_call zt_X8_event [.int (nI k), .int (nI x), .int (nI n)] [] (zs_isEvent (nI k) (nI x) (nI n) μ0) rfl rfl ?_
  rintro _ _ ⟨b, rfl, rfl, hb, hb0⟩
  refine zq_go zt_X8_event 1 [] (if ¬ b = 0 then 12 else 9) [(0, .ref 0), (1, .int (nI k)), (2, .int (nI x)), (3, .int (nI n))] [] μ0 rfl trivial ?_
  rw [if_pos (fun q => hb0.mp q (zPE_n hk))]
  have hle := hC.2.2.2.1.2
  refine zq_go zt_X8_event 5 [] (if (μ0.1 11 3) < (nI 8) then 27 else 24) [(0, .ref 0), (1, .int (nI k)), (2, .int (nI x)), (3, .int (nI n))] [] μ0 rfl trivial ?_
  rw [hC.2.2.2.1.1.2.1]
  rw [if_neg (by rw [zn_lt (by omega) (by omega)]; omega)]
  refine zq_go zt_X8_event 1 [] 26 [(0, .ref 0), (1, .int (nI k)), (2, .int (nI x)), (3, .int (nI n))] [.int (-4)] μ0 rfl trivial ?_
  exact zq_retn zt_X8_event rfl rfl (⟨rfl, hC, zq_fr.rf⟩)
set_option maxRecDepth 100000 in
set_option maxHeartbeats 400000 in
theorem zs_eventm {k x n : Nat} (hk : yek9 k x n) {τ : zTd} {S : zES} {H : zSH} {μ0 : zq_Me} (hE : yne τ < 8) (hM : zIm τ S H μ0) : zq_Wp zn_X9_event 0 [(0, .ref 50), (1, .int (nI k)), (2, .int (nI x)), (3, .int (nI n))] [] μ0 (zRm' (.int (nI (yne τ + 1))) (τ.1, τ.2.1, τ.2.2.1, ypu τ.2.2.2 k x n) S H μ0) := by
  obtain ⟨hk1, hk2, hk3, hk4⟩ := hk
  have hle := hM.2.2.1.2
  refine zq_go zt_X9_event 1 [] 1 [(0, .ref 50), (1, .int (nI k)), (2, .int (nI x)), (3, .int (nI n))] [.int (nI k)] μ0 rfl trivial ?_
  refine zq_call zt_X9_event [.int (nI k)] [] (zs_isTwom (nI k) μ0) rfl rfl ?_
  rintro _ _ ⟨rfl, rfl⟩
  refine zq_go zt_X9_event 1 [] (if (zb (0 ≤ nI k ∧ nI k ≤ nI 1)) = 0 then 33 else 7) [(0, .ref 50), (1, .int (nI k)), (2, .int (nI x)), (3, .int (nI n))] [] μ0 rfl trivial ?_
  rw [if_neg (zb_n (yin (by omega) (by decide)))]
  refine zq_go zt_X9_event 1 [] 8 [(0, .ref 50), (1, .int (nI k)), (2, .int (nI x)), (3, .int (nI n))] [.int (nI x)] μ0 rfl trivial ?_
  refine zq_call zt_X9_event [.int (nI x)] [] (zs_isHourm (nI x) μ0) rfl rfl ?_
  rintro _ _ ⟨rfl, rfl⟩
  refine zq_go zt_X9_event 1 [] (if (zb (0 ≤ nI x ∧ nI x ≤ nI 23)) = 0 then 33 else 14) [(0, .ref 50), (1, .int (nI k)), (2, .int (nI x)), (3, .int (nI n))] [] μ0 rfl trivial ?_
  rw [if_neg (zb_n (yin (by omega) (by decide)))]
  refine zq_go zt_X9_event 4 [] (if ¬ (nI k) = 0 then 25 else 20) [(0, .ref 50), (1, .int (nI k)), (2, .int (nI x)), (3, .int (nI n))] [.int (nI 0), .int (nI n)] μ0 rfl trivial ?_
  refine zq_ite (fun h13 => ?_) (fun h13 => ?_)
  · rw [show (0 : Int32) = nI 0 from rfl, zn_eq (by omega) (by omega)] at h13
    refine zq_go zt_X9_event 1 [] 27 [(0, .ref 50), (1, .int (nI k)), (2, .int (nI x)), (3, .int (nI n))] [.int (nI 11), .int (nI 0), .int (nI n)] μ0 rfl trivial ?_
    refine zq_call zt_X9_event [.int (nI n), .int (nI 0), .int (nI 11)] [] (zs_in (nI n) (nI 0) (nI 11) μ0) rfl rfl ?_
    rintro _ _ ⟨rfl, rfl⟩
    refine zq_go zt_X9_event 1 [] (if ¬ (zb (0 ≤ nI n ∧ nI n ≤ nI 11)) = 0 then 36 else 33) [(0, .ref 50), (1, .int (nI k)), (2, .int (nI x)), (3, .int (nI n))] [] μ0 rfl trivial ?_
    rw [if_pos (zb_n (yin (by omega) (by decide)))]
    refine zq_go zt_X9_event 4 [] (if ¬ (μ0.1 50 10) = (nI 8) then 48 else 45) [(0, .ref 50), (1, .int (nI k)), (2, .int (nI x)), (3, .int (nI n))] [] μ0 rfl trivial ?_
    rw [hM.2.2.1.1.2.1]
    rw [if_pos (by rw [zn_eq (by omega) (by omega)]; omega)]
    refine zq_go zt_X9_event 24 [vp_in (μ0.1 50 10) 9, vp_in (μ0.1 50 10) 9, vp_in (μ0.1 50 10) 9] 88 [(0, .ref 50), (1, .int (nI k)), (2, .int (nI x)), (3, .int (nI n))] [] (zq_u1 (zq_u1 (zq_u1 (zq_u1 μ0 58 ((μ0.1 50 10).toNatClampNeg) (nI k)) 59 ((μ0.1 50 10).toNatClampNeg) (nI x)) 60 ((μ0.1 50 10).toNatClampNeg) (nI n)) 50 10 ((μ0.1 50 10) + (nI 1))) rfl ⟨zn_in (k := yne τ) (by rw [hM.2.2.1.1.2.1]) (by omega) (by decide), ⟨zn_in (k := yne τ) (by rw [hM.2.2.1.1.2.1]) (by omega) (by decide), ⟨zn_in (k := yne τ) (by rw [hM.2.2.1.1.2.1]) (by omega) (by decide), trivial⟩⟩⟩ ?_
    rw [hM.2.2.1.1.2.1, zn_cl (n := yne τ) (by omega), zn_add (yne τ) 1]
    obtain ⟨μ1, hμ1⟩ : ∃ k9 : zq_Me, k9 = (zq_u1 (zq_u1 (zq_u1 (zq_u1 μ0 58 (yne τ) (nI k)) 59 (yne τ) (nI x)) 60 (yne τ) (nI n)) 50 10 (nI ((yne τ) + 1))) := ⟨_, rfl⟩
    rw [← hμ1]
    have f1 : zq_fr [50, 58, 59, 60] μ0 μ1 := by rw [hμ1]; exact (((zq_fr.rf.u1 (by simp)).u1 (by simp)).u1 (by simp)).u1 (by simp)
    have s1 : ∀ i, i ≠ 10 → μ1.1 50 i = μ0.1 50 i := fun i hi => by rw [hμ1, zq_u1_o2 hi, zq_u1_ne (by decide), zq_u1_ne (by decide), zq_u1_ne (by decide)]
    have hz : μ1.1 50 10 = nI (yne τ + 1) := by rw [hμ1, zq_u1_s]
    have he := zEv.pu (E := τ.2.2.2) (μ1 := μ1) hM.2.2.1.1 (show yne τ < 9 by omega) (k := k) (x := x) (n := n) ⟨hk1, hk2, hk3, hk4⟩ hz (fun i => by rw [hμ1, zq_u1_ne (by decide), zq_u1_ne (by decide), zq_u1_ne (by decide), zq_u1_rd]; rfl) (fun i => by rw [hμ1, zq_u1_ne (by decide), zq_u1_ne (by decide), zq_u1_rd, zq_u1_ne (by decide)]; rfl) (fun i => by rw [hμ1, zq_u1_ne (by decide), zq_u1_rd, zq_u1_ne (by decide), zq_u1_ne (by decide)]; rfl)
    have hI := hM.ch τ.2.2.1 (ypu τ.2.2.2 k x n) f1 (s1 26 (by decide)) (s1 36 (by decide)) ⟨by rw [s1 9 (by decide)]; exact hM.2.1.1, hM.2.1.2⟩ ⟨he, show yne τ + 1 ≤ 8 by omega⟩
    refine zq_go zt_X9_event 2 [] 92 [(0, .ref 50), (1, .int (nI k)), (2, .int (nI x)), (3, .int (nI n))] [.int (μ1.1 50 10)] μ1 rfl trivial ?_
    rw [hz]
    exact zq_retn zt_X9_event rfl rfl (⟨rfl, hI, f1.wk (by simp +contextual [zSM])⟩)
  · rw [show (0 : Int32) = nI 0 from rfl, zn_eq (by omega) (by omega)] at h13
    have hn8 := hk4 (by omega)
    refine zq_go zt_X9_event 2 [] 27 [(0, .ref 50), (1, .int (nI k)), (2, .int (nI x)), (3, .int (nI n))] [.int (nI 7), .int (nI 0), .int (nI n)] μ0 rfl trivial ?_
    refine zq_call zt_X9_event [.int (nI n), .int (nI 0), .int (nI 7)] [] (zs_in (nI n) (nI 0) (nI 7) μ0) rfl rfl ?_
    rintro _ _ ⟨rfl, rfl⟩
    refine zq_go zt_X9_event 1 [] (if ¬ (zb (0 ≤ nI n ∧ nI n ≤ nI 7)) = 0 then 36 else 33) [(0, .ref 50), (1, .int (nI k)), (2, .int (nI x)), (3, .int (nI n))] [] μ0 rfl trivial ?_
    rw [if_pos (zb_n (yin (by omega) (by decide)))]
    refine zq_go zt_X9_event 4 [] (if ¬ (μ0.1 50 10) = (nI 8) then 48 else 45) [(0, .ref 50), (1, .int (nI k)), (2, .int (nI x)), (3, .int (nI n))] [] μ0 rfl trivial ?_
    rw [hM.2.2.1.1.2.1]
    rw [if_pos (by rw [zn_eq (by omega) (by omega)]; omega)]
    refine zq_go zt_X9_event 24 [vp_in (μ0.1 50 10) 9, vp_in (μ0.1 50 10) 9, vp_in (μ0.1 50 10) 9] 88 [(0, .ref 50), (1, .int (nI k)), (2, .int (nI x)), (3, .int (nI n))] [] (zq_u1 (zq_u1 (zq_u1 (zq_u1 μ0 58 ((μ0.1 50 10).toNatClampNeg) (nI k)) 59 ((μ0.1 50 10).toNatClampNeg) (nI x)) 60 ((μ0.1 50 10).toNatClampNeg) (nI n)) 50 10 ((μ0.1 50 10) + (nI 1))) rfl ⟨zn_in (k := yne τ) (by rw [hM.2.2.1.1.2.1]) (by omega) (by decide), ⟨zn_in (k := yne τ) (by rw [hM.2.2.1.1.2.1]) (by omega) (by decide), ⟨zn_in (k := yne τ) (by rw [hM.2.2.1.1.2.1]) (by omega) (by decide), trivial⟩⟩⟩ ?_
    rw [hM.2.2.1.1.2.1, zn_cl (n := yne τ) (by omega), zn_add (yne τ) 1]
    obtain ⟨μ1, hμ1⟩ : ∃ k9 : zq_Me, k9 = (zq_u1 (zq_u1 (zq_u1 (zq_u1 μ0 58 (yne τ) (nI k)) 59 (yne τ) (nI x)) 60 (yne τ) (nI n)) 50 10 (nI ((yne τ) + 1))) := ⟨_, rfl⟩
    rw [← hμ1]
    have f1 : zq_fr [50, 58, 59, 60] μ0 μ1 := by rw [hμ1]; exact (((zq_fr.rf.u1 (by simp)).u1 (by simp)).u1 (by simp)).u1 (by simp)
    have s1 : ∀ i, i ≠ 10 → μ1.1 50 i = μ0.1 50 i := fun i hi => by rw [hμ1, zq_u1_o2 hi, zq_u1_ne (by decide), zq_u1_ne (by decide), zq_u1_ne (by decide)]
    have hz : μ1.1 50 10 = nI (yne τ + 1) := by rw [hμ1, zq_u1_s]
    have he := zEv.pu (E := τ.2.2.2) (μ1 := μ1) hM.2.2.1.1 (show yne τ < 9 by omega) (k := k) (x := x) (n := n) ⟨hk1, hk2, hk3, hk4⟩ hz (fun i => by rw [hμ1, zq_u1_ne (by decide), zq_u1_ne (by decide), zq_u1_ne (by decide), zq_u1_rd]; rfl) (fun i => by rw [hμ1, zq_u1_ne (by decide), zq_u1_ne (by decide), zq_u1_rd, zq_u1_ne (by decide)]; rfl) (fun i => by rw [hμ1, zq_u1_ne (by decide), zq_u1_rd, zq_u1_ne (by decide), zq_u1_ne (by decide)]; rfl)
    have hI := hM.ch τ.2.2.1 (ypu τ.2.2.2 k x n) f1 (s1 26 (by decide)) (s1 36 (by decide)) ⟨by rw [s1 9 (by decide)]; exact hM.2.1.1, hM.2.1.2⟩ ⟨he, show yne τ + 1 ≤ 8 by omega⟩
    refine zq_go zt_X9_event 2 [] 92 [(0, .ref 50), (1, .int (nI k)), (2, .int (nI x)), (3, .int (nI n))] [.int (μ1.1 50 10)] μ1 rfl trivial ?_
    rw [hz]
    exact zq_retn zt_X9_event rfl rfl (⟨rfl, hI, f1.wk (by simp +contextual [zSM])⟩)
set_option maxRecDepth 100000 in
set_option maxHeartbeats 400000 in
theorem zs_eventmF {k x n : Nat} (hk : yek9 k x n) {τ : zTd} {S : zES} {H : zSH} {μ0 : zq_Me} (hE : yne τ = 8) (hM : zIm τ S H μ0) : zq_Wp zn_X9_event 0 [(0, .ref 50), (1, .int (nI k)), (2, .int (nI x)), (3, .int (nI n))] [] μ0 (zRm' (.int (-4)) τ S H μ0) := by
  obtain ⟨hk1, hk2, hk3, hk4⟩ := hk
  have hle := hM.2.2.1.2
  refine zq_go zt_X9_event 1 [] 1 [(0, .ref 50), (1, .int (nI k)), (2, .int (nI x)), (3, .int (nI n))] [.int (nI k)] μ0 rfl trivial ?_
  refine zq_call zt_X9_event [.int (nI k)] [] (zs_isTwom (nI k) μ0) rfl rfl ?_
  rintro _ _ ⟨rfl, rfl⟩
  refine zq_go zt_X9_event 1 [] (if (zb (0 ≤ nI k ∧ nI k ≤ nI 1)) = 0 then 33 else 7) [(0, .ref 50), (1, .int (nI k)), (2, .int (nI x)), (3, .int (nI n))] [] μ0 rfl trivial ?_
  rw [if_neg (zb_n (yin (by omega) (by decide)))]
  refine zq_go zt_X9_event 1 [] 8 [(0, .ref 50), (1, .int (nI k)), (2, .int (nI x)), (3, .int (nI n))] [.int (nI x)] μ0 rfl trivial ?_
  refine zq_call zt_X9_event [.int (nI x)] [] (zs_isHourm (nI x) μ0) rfl rfl ?_
  rintro _ _ ⟨rfl, rfl⟩
  refine zq_go zt_X9_event 1 [] (if (zb (0 ≤ nI x ∧ nI x ≤ nI 23)) = 0 then 33 else 14) [(0, .ref 50), (1, .int (nI k)), (2, .int (nI x)), (3, .int (nI n))] [] μ0 rfl trivial ?_
  rw [if_neg (zb_n (yin (by omega) (by decide)))]
  refine zq_go zt_X9_event 4 [] (if ¬ (nI k) = 0 then 25 else 20) [(0, .ref 50), (1, .int (nI k)), (2, .int (nI x)), (3, .int (nI n))] [.int (nI 0), .int (nI n)] μ0 rfl trivial ?_
  refine zq_ite (fun h13 => ?_) (fun h13 => ?_)
  · rw [show (0 : Int32) = nI 0 from rfl, zn_eq (by omega) (by omega)] at h13
    refine zq_go zt_X9_event 1 [] 27 [(0, .ref 50), (1, .int (nI k)), (2, .int (nI x)), (3, .int (nI n))] [.int (nI 11), .int (nI 0), .int (nI n)] μ0 rfl trivial ?_
    refine zq_call zt_X9_event [.int (nI n), .int (nI 0), .int (nI 11)] [] (zs_in (nI n) (nI 0) (nI 11) μ0) rfl rfl ?_
    rintro _ _ ⟨rfl, rfl⟩
    refine zq_go zt_X9_event 1 [] (if ¬ (zb (0 ≤ nI n ∧ nI n ≤ nI 11)) = 0 then 36 else 33) [(0, .ref 50), (1, .int (nI k)), (2, .int (nI x)), (3, .int (nI n))] [] μ0 rfl trivial ?_
    rw [if_pos (zb_n (yin (by omega) (by decide)))]
    refine zq_go zt_X9_event 4 [] (if ¬ (μ0.1 50 10) = (nI 8) then 48 else 45) [(0, .ref 50), (1, .int (nI k)), (2, .int (nI x)), (3, .int (nI n))] [] μ0 rfl trivial ?_
    rw [hM.2.2.1.1.2.1]
    rw [if_neg (by rw [zn_eq (by omega) (by omega)]; omega)]
    refine zq_go zt_X9_event 1 [] 47 [(0, .ref 50), (1, .int (nI k)), (2, .int (nI x)), (3, .int (nI n))] [.int (-4)] μ0 rfl trivial ?_
    exact zq_retn zt_X9_event rfl rfl (⟨rfl, hM, zq_fr.rf⟩)
  · rw [show (0 : Int32) = nI 0 from rfl, zn_eq (by omega) (by omega)] at h13
    have hn8 := hk4 (by omega)
    refine zq_go zt_X9_event 2 [] 27 [(0, .ref 50), (1, .int (nI k)), (2, .int (nI x)), (3, .int (nI n))] [.int (nI 7), .int (nI 0), .int (nI n)] μ0 rfl trivial ?_
    refine zq_call zt_X9_event [.int (nI n), .int (nI 0), .int (nI 7)] [] (zs_in (nI n) (nI 0) (nI 7) μ0) rfl rfl ?_
    rintro _ _ ⟨rfl, rfl⟩
    refine zq_go zt_X9_event 1 [] (if ¬ (zb (0 ≤ nI n ∧ nI n ≤ nI 7)) = 0 then 36 else 33) [(0, .ref 50), (1, .int (nI k)), (2, .int (nI x)), (3, .int (nI n))] [] μ0 rfl trivial ?_
    rw [if_pos (zb_n (yin (by omega) (by decide)))]
    refine zq_go zt_X9_event 4 [] (if ¬ (μ0.1 50 10) = (nI 8) then 48 else 45) [(0, .ref 50), (1, .int (nI k)), (2, .int (nI x)), (3, .int (nI n))] [] μ0 rfl trivial ?_
    rw [hM.2.2.1.1.2.1]
    rw [if_neg (by rw [zn_eq (by omega) (by omega)]; omega)]
    refine zq_go zt_X9_event 1 [] 47 [(0, .ref 50), (1, .int (nI k)), (2, .int (nI x)), (3, .int (nI n))] [.int (-4)] μ0 rfl trivial ?_
    exact zq_retn zt_X9_event rfl rfl (⟨rfl, hM, zq_fr.rf⟩)
set_option maxRecDepth 100000 in
set_option maxHeartbeats 400000 in
theorem zs_event_b (v1 v2 v3 : Int32) (hg : ¬ zPE v1 v2 v3) {τ : zTd} {S : zES} {H : zSH} {μ0 : zq_Me} (hC : zIc τ S H μ0) : zq_Wp zn_X8_event 0 [(0, .ref 0), (1, .int v1), (2, .int v2), (3, .int v3)] [] μ0 (zRc (.int (-2)) τ S H μ0) := by
  refine zq_go zt_X8_event 3 [] 3 [(0, .ref 0), (1, .int v1), (2, .int v2), (3, .int v3)] [.int v3, .int v2, .int v1] μ0 rfl trivial ?_
  refine zq_call zt_X8_event [.int v1, .int v2, .int v3] [] (zs_isEvent v1 v2 v3 μ0) rfl rfl ?_
  rintro _ _ ⟨b, rfl, rfl, hb, hb0⟩
  refine zq_go zt_X8_event 1 [] (if ¬ b = 0 then 12 else 9) [(0, .ref 0), (1, .int v1), (2, .int v2), (3, .int v3)] [] μ0 rfl trivial ?_
  rw [if_neg (fun q => q (hb0.mpr hg))]
  refine zq_go zt_X8_event 1 [] 11 [(0, .ref 0), (1, .int v1), (2, .int v2), (3, .int v3)] [.int (-2)] μ0 rfl trivial ?_
  exact zq_retn zt_X8_event rfl rfl (⟨rfl, hC, zq_fr.rf⟩)
set_option maxRecDepth 100000 in
set_option maxHeartbeats 400000 in
theorem zs_eventm_b (v1 v2 v3 : Int32) (hg : ¬ zPE v1 v2 v3) {τ : zTd} {S : zES} {H : zSH} {μ0 : zq_Me} (hM : zIm τ S H μ0) : zq_Wp zn_X9_event 0 [(0, .ref 50), (1, .int v1), (2, .int v2), (3, .int v3)] [] μ0 (zRm' (.int (-2)) τ S H μ0) := by
  refine zq_go zt_X9_event 1 [] 1 [(0, .ref 50), (1, .int v1), (2, .int v2), (3, .int v3)] [.int v1] μ0 rfl trivial ?_
  refine zq_call zt_X9_event [.int v1] [] (zs_isTwom v1 μ0) rfl rfl ?_
  rintro _ _ ⟨rfl, rfl⟩
  refine zq_go zt_X9_event 1 [] (if (zb (0 ≤ v1 ∧ v1 ≤ nI 1)) = 0 then 33 else 7) [(0, .ref 50), (1, .int v1), (2, .int v2), (3, .int v3)] [] μ0 rfl trivial ?_
  refine zq_ite (fun h4 => ?_) (fun h4 => ?_)
  · refine zq_go zt_X9_event 1 [] 35 [(0, .ref 50), (1, .int v1), (2, .int v2), (3, .int v3)] [.int (-2)] μ0 rfl trivial ?_
    exact zq_retn zt_X9_event rfl rfl (⟨rfl, hM, zq_fr.rf⟩)
  · have g1 := zb_p h4
    refine zq_go zt_X9_event 1 [] 8 [(0, .ref 50), (1, .int v1), (2, .int v2), (3, .int v3)] [.int v2] μ0 rfl trivial ?_
    refine zq_call zt_X9_event [.int v2] [] (zs_isHourm v2 μ0) rfl rfl ?_
    rintro _ _ ⟨rfl, rfl⟩
    refine zq_go zt_X9_event 1 [] (if (zb (0 ≤ v2 ∧ v2 ≤ nI 23)) = 0 then 33 else 14) [(0, .ref 50), (1, .int v1), (2, .int v2), (3, .int v3)] [] μ0 rfl trivial ?_
    refine zq_ite (fun h12 => ?_) (fun h12 => ?_)
    · refine zq_go zt_X9_event 1 [] 35 [(0, .ref 50), (1, .int v1), (2, .int v2), (3, .int v3)] [.int (-2)] μ0 rfl trivial ?_
      exact zq_retn zt_X9_event rfl rfl (⟨rfl, hM, zq_fr.rf⟩)
    · have g2 := zb_p h12
      refine zq_go zt_X9_event 4 [] (if ¬ v1 = 0 then 25 else 20) [(0, .ref 50), (1, .int v1), (2, .int v2), (3, .int v3)] [.int (nI 0), .int v3] μ0 rfl trivial ?_
      refine zq_ite (fun h17 => ?_) (fun h17 => ?_)
      · refine zq_go zt_X9_event 1 [] 27 [(0, .ref 50), (1, .int v1), (2, .int v2), (3, .int v3)] [.int (nI 11), .int (nI 0), .int v3] μ0 rfl trivial ?_
        refine zq_call zt_X9_event [.int v3, .int (nI 0), .int (nI 11)] [] (zs_in v3 (nI 0) (nI 11) μ0) rfl rfl ?_
        rintro _ _ ⟨rfl, rfl⟩
        refine zq_go zt_X9_event 1 [] (if ¬ (zb (0 ≤ v3 ∧ v3 ≤ nI 11)) = 0 then 36 else 33) [(0, .ref 50), (1, .int v1), (2, .int v2), (3, .int v3)] [] μ0 rfl trivial ?_
        refine zq_ite (fun h22 => ?_) (fun h22 => ?_)
        · exact absurd ⟨g1, g2, by rw [if_neg h17]; exact zb_p h22⟩ hg
        · refine zq_go zt_X9_event 1 [] 35 [(0, .ref 50), (1, .int v1), (2, .int v2), (3, .int v3)] [.int (-2)] μ0 rfl trivial ?_
          exact zq_retn zt_X9_event rfl rfl (⟨rfl, hM, zq_fr.rf⟩)
      · refine zq_go zt_X9_event 2 [] 27 [(0, .ref 50), (1, .int v1), (2, .int v2), (3, .int v3)] [.int (nI 7), .int (nI 0), .int v3] μ0 rfl trivial ?_
        refine zq_call zt_X9_event [.int v3, .int (nI 0), .int (nI 7)] [] (zs_in v3 (nI 0) (nI 7) μ0) rfl rfl ?_
        rintro _ _ ⟨rfl, rfl⟩
        refine zq_go zt_X9_event 1 [] (if ¬ (zb (0 ≤ v3 ∧ v3 ≤ nI 7)) = 0 then 36 else 33) [(0, .ref 50), (1, .int v1), (2, .int v2), (3, .int v3)] [] μ0 rfl trivial ?_
        refine zq_ite (fun h30 => ?_) (fun h30 => ?_)
        · exact absurd ⟨g1, g2, by rw [if_pos (Classical.not_not.mp h17)]; exact zb_p h30⟩ hg
        · refine zq_go zt_X9_event 1 [] 35 [(0, .ref 50), (1, .int v1), (2, .int v2), (3, .int v3)] [.int (-2)] μ0 rfl trivial ?_
          exact zq_retn zt_X9_event rfl rfl (⟨rfl, hM, zq_fr.rf⟩)
noncomputable def vEv (E : zES) (v1 v2 v3 : Int32) : Int32 × zES := @ite _ (zPE v1 v2 v3) (Classical.propDecidable _) (if E.1 < 8 then (nI (E.1 + 1), ypu E v1.toNatClampNeg v2.toNatClampNeg v3.toNatClampNeg) else (-4, E)) (-2, E)
theorem zs_evc (v1 v2 v3 : Int32) {τ : zTd} {S : zES} {H : zSH} {μ0 : zq_Me} (hC : zIc τ S H μ0) : zq_Wp zn_X8_event 0 [(0, .ref 0), (1, .int v1), (2, .int v2), (3, .int v3)] [] μ0 (zRc (.int (vEv τ.2.2.2 v1 v2 v3).1) (τ.1, τ.2.1, τ.2.2.1, (vEv τ.2.2.2 v1 v2 v3).2) S H μ0) := by
  unfold vEv
  by_cases h : zPE v1 v2 v3
  · rw [if_pos h]
    obtain ⟨k, x, n, rfl, rfl, rfl, hk⟩ := zPE_of h
    have hk9 := hk
    obtain ⟨a, b, c, d⟩ := hk9
    rw [zn_cl (by omega), zn_cl (by omega), zn_cl (by omega)]
    by_cases h8 : τ.2.2.2.1 < 8
    · rw [if_pos h8]; exact zs_event hk h8 hC
    · rw [if_neg h8]; exact zs_eventF (τ := τ) hk (by have h9 := hC.2.2.2.1.2; unfold yne at h9 ⊢; omega) hC
  · rw [if_neg h]; exact zs_event_b v1 v2 v3 h hC
theorem zs_evm (v1 v2 v3 : Int32) {τ : zTd} {S : zES} {H : zSH} {μ0 : zq_Me} (hM : zIm τ S H μ0) : zq_Wp zn_X9_event 0 [(0, .ref 50), (1, .int v1), (2, .int v2), (3, .int v3)] [] μ0 (zRm' (.int (vEv τ.2.2.2 v1 v2 v3).1) (τ.1, τ.2.1, τ.2.2.1, (vEv τ.2.2.2 v1 v2 v3).2) S H μ0) := by
  unfold vEv
  by_cases h : zPE v1 v2 v3
  · rw [if_pos h]
    obtain ⟨k, x, n, rfl, rfl, rfl, hk⟩ := zPE_of h
    have hk9 := hk
    obtain ⟨a, b, c, d⟩ := hk9
    rw [zn_cl (by omega), zn_cl (by omega), zn_cl (by omega)]
    by_cases h8 : τ.2.2.2.1 < 8
    · rw [if_pos h8]; exact zs_eventm hk h8 hM
    · rw [if_neg h8]; exact zs_eventmF (τ := τ) hk (by have h9 := hM.2.2.1.2; unfold yne at h9 ⊢; omega) hM
  · rw [if_neg h]; exact zs_eventm_b v1 v2 v3 h hM
theorem zo_event (v1 v2 v3 : Int32) : zop zn_X8_event [(0, .ref 0), (1, .int v1), (2, .int v2), (3, .int v3)] zn_X9_event [(0, .ref 50), (1, .int v1), (2, .int v2), (3, .int v3)] := fun τ S H μ hC _ => ⟨_, _, S, H, zs_evc v1 v2 v3 hC, fun _ h => zs_evm v1 v2 v3 h⟩
theorem vEv_b {E : zES} (hE : E.1 ≤ 8) (v1 v2 v3 : Int32) : (vEv E v1 v2 v3).2.1 ≤ 8 ∧ ((vEv E v1 v2 v3).1 < 0 ∧ (vEv E v1 v2 v3).2 = E ∨ ¬ (vEv E v1 v2 v3).1 < 0 ∧ 0 < (vEv E v1 v2 v3).1) := by
  unfold vEv
  by_cases h : zPE v1 v2 v3
  · rw [if_pos h]
    by_cases h8 : E.1 < 8
    · rw [if_pos h8]
      exact ⟨show E.1 + 1 ≤ 8 by omega, Or.inr ⟨zn_notneg (by omega), by show (0 : Int32) < nI (E.1 + 1); rw [show (0 : Int32) = nI 0 from rfl, zn_lt (by omega) (by omega)]; omega⟩⟩
    · rw [if_neg h8]; exact ⟨hE, Or.inl ⟨(by decide : (-4 : Int32) < 0), rfl⟩⟩
  · rw [if_neg h]; exact ⟨hE, Or.inl ⟨(by decide : (-2 : Int32) < 0), rfl⟩⟩
set_option maxRecDepth 100000 in
set_option maxHeartbeats 400000 in
theorem zs_back_b {τ : zTd} {S : zES} {H : zSH} {μ0 : zq_Me} (hE : yne τ = 0) (hC : zIc τ S H μ0) : zq_Wp zn_X8_back 0 [(0, .ref 0)] [] μ0 (zRc (.int (-3)) τ S H μ0) := by
  have hle := hC.2.2.2.1.2
  refine zq_go zt_X8_back 4 [] (if ¬ (μ0.1 11 3) = 0 then 13 else 10) [(0, .ref 0)] [] μ0 rfl trivial ?_
  rw [hC.2.2.2.1.1.2.1]
  rw [if_neg (by rw [show (0 : Int32) = nI 0 from rfl, zn_eq (by omega) (by omega)]; omega)]
  refine zq_go zt_X8_back 1 [] 12 [(0, .ref 0)] [.int (-3)] μ0 rfl trivial ?_
  exact zq_retn zt_X8_back rfl rfl (⟨rfl, hC, zq_fr.rf⟩)
set_option maxRecDepth 100000 in
set_option maxHeartbeats 400000 in
theorem zs_back {τ : zTd} {S : zES} {H : zSH} {μ0 : zq_Me} (hE : 0 < yne τ) (hC : zIc τ S H μ0) : zq_Wp zn_X8_back 0 [(0, .ref 0)] [] μ0 (zRc (.int (nI (yne τ - 1))) (τ.1, τ.2.1, τ.2.2.1, (yne τ - 1, τ.2.2.2.2)) S H μ0) := by
  have hle := hC.2.2.2.1.2
  refine zq_go zt_X8_back 4 [] (if ¬ (μ0.1 11 3) = 0 then 13 else 10) [(0, .ref 0)] [] μ0 rfl trivial ?_
  rw [hC.2.2.2.1.1.2.1]
  rw [if_pos (by rw [show (0 : Int32) = nI 0 from rfl, zn_eq (by omega) (by omega)]; omega)]
  refine zq_go zt_X8_back 8 [] 27 [(0, .ref 0)] [.ref 0] (zq_u1 μ0 11 3 ((μ0.1 11 3) - (nI 1))) rfl trivial ?_
  rw [hC.2.2.2.1.1.2.1, zn_sub (show 1 ≤ (yne τ) by omega)]
  obtain ⟨μ1, hμ1⟩ : ∃ k9 : zq_Me, k9 = (zq_u1 μ0 11 3 (nI ((yne τ) - 1))) := ⟨_, rfl⟩
  rw [← hμ1]
  refine zq_call zt_X8_back [.ref 0] [] (zs_changed μ1) rfl rfl ?_
  rintro _ μ2 ⟨rfl, f2, s14, s16, s2⟩
  have f1 : zq_fr [11] μ0 μ1 := by rw [hμ1]; exact zq_fr.rf.u1 (by simp)
  have f9 : zq_fr [0, 11, 12, 13, 14] μ0 μ2 := (f1.wk (by simp)).tr (f2.wk (by simp))
  have q0 : ∀ i, i ≠ 14 → i ≠ 16 → μ2.1 0 i = μ0.1 0 i := fun i h1 h2 => by rw [s2 i h1 h2, f1.a (b := 0) (by decide)]
  have hz : μ2.1 11 3 = nI (yne τ - 1) := by rw [f2.a (b := 11) (by decide), hμ1, zq_u1_s]
  have he : zCe (τ.1, τ.2.1, τ.2.2.1, (yne τ - 1, τ.2.2.2.2)) μ2 := ⟨⟨show yne τ - 1 ≤ 9 by omega, hz, fun e he => by
    have he : e < yne τ - 1 := he
    rw [f2.a (b := 12) (by decide), f2.a (b := 13) (by decide), f2.a (b := 14) (by decide), f1.a (b := 12) (by decide), f1.a (b := 13) (by decide), f1.a (b := 14) (by decide)]
    exact hC.2.2.2.1.1.2.2 e (by omega)⟩, show yne τ - 1 ≤ 8 by omega⟩
  have hI := hC.ch τ.2.2.1 (yne τ - 1, τ.2.2.2.2) f9 s14 s16 (q0 13 (by decide) (by decide)) ⟨by rw [q0 12 (by decide) (by decide)]; exact hC.2.2.1.1, hC.2.2.1.2⟩ he
  refine zq_go zt_X8_back 3 [] 37 [(0, .ref 0)] [.int (μ2.1 11 3)] μ2 rfl trivial ?_
  rw [hz]
  exact zq_retn zt_X8_back rfl rfl (⟨rfl, hI, f9.wk (by simp +contextual [zSC])⟩)
set_option maxRecDepth 100000 in
set_option maxHeartbeats 400000 in
theorem zs_backm_b {τ : zTd} {S : zES} {H : zSH} {μ0 : zq_Me} (hE : yne τ = 0) (hM : zIm τ S H μ0) : zq_Wp zn_X9_back 0 [(0, .ref 50)] [] μ0 (zRm' (.int (-3)) τ S H μ0) := by
  have hle := hM.2.2.1.2
  refine zq_go zt_X9_back 3 [] (if ¬ (μ0.1 50 10) = 0 then 10 else 7) [(0, .ref 50)] [] μ0 rfl trivial ?_
  rw [hM.2.2.1.1.2.1]
  rw [if_neg (by rw [show (0 : Int32) = nI 0 from rfl, zn_eq (by omega) (by omega)]; omega)]
  refine zq_go zt_X9_back 1 [] 9 [(0, .ref 50)] [.int (-3)] μ0 rfl trivial ?_
  exact zq_retn zt_X9_back rfl rfl (⟨rfl, hM, zq_fr.rf⟩)
set_option maxRecDepth 100000 in
set_option maxHeartbeats 400000 in
theorem zs_backm {τ : zTd} {S : zES} {H : zSH} {μ0 : zq_Me} (hE : 0 < yne τ) (hM : zIm τ S H μ0) : zq_Wp zn_X9_back 0 [(0, .ref 50)] [] μ0 (zRm' (.int (nI (yne τ - 1))) (τ.1, τ.2.1, τ.2.2.1, (yne τ - 1, τ.2.2.2.2)) S H μ0) := by
  have hle := hM.2.2.1.2
  refine zq_go zt_X9_back 3 [] (if ¬ (μ0.1 50 10) = 0 then 10 else 7) [(0, .ref 50)] [] μ0 rfl trivial ?_
  rw [hM.2.2.1.1.2.1]
  rw [if_pos (by rw [show (0 : Int32) = nI 0 from rfl, zn_eq (by omega) (by omega)]; omega)]
  refine zq_go zt_X9_back 6 [] 20 [(0, .ref 50)] [] (zq_u1 μ0 50 10 ((μ0.1 50 10) - (nI 1))) rfl trivial ?_
  rw [hM.2.2.1.1.2.1, zn_sub (show 1 ≤ (yne τ) by omega)]
  obtain ⟨μ1, hμ1⟩ : ∃ k9 : zq_Me, k9 = (zq_u1 μ0 50 10 (nI ((yne τ) - 1))) := ⟨_, rfl⟩
  rw [← hμ1]
  have f1 : zq_fr [50] μ0 μ1 := by rw [hμ1]; exact zq_fr.rf.u1 (by simp)
  have s1 : ∀ i, i ≠ 10 → μ1.1 50 i = μ0.1 50 i := fun i hi => by rw [hμ1, zq_u1_o2 hi]
  have hz : μ1.1 50 10 = nI (yne τ - 1) := by rw [hμ1, zq_u1_s]
  have hI := hM.ch τ.2.2.1 (yne τ - 1, τ.2.2.2.2) (f1.wk (by simp)) (s1 26 (by decide)) (s1 36 (by decide)) ⟨by rw [s1 9 (by decide)]; exact hM.2.1.1, hM.2.1.2⟩ ⟨⟨show yne τ - 1 ≤ 9 by omega, hz, fun e he => by
    have he : e < yne τ - 1 := he
    rw [f1.a (b := 58) (by decide), f1.a (b := 59) (by decide), f1.a (b := 60) (by decide)]
    exact hM.2.2.1.1.2.2 e (by omega)⟩, show yne τ - 1 ≤ 8 by omega⟩
  refine zq_go zt_X9_back 2 [] 24 [(0, .ref 50)] [.int (μ1.1 50 10)] μ1 rfl trivial ?_
  rw [hz]
  exact zq_retn zt_X9_back rfl rfl (⟨rfl, hI, f1.wk (by simp [zSM])⟩)
theorem zo_back : zop zn_X8_back [(0, .ref 0)] zn_X9_back [(0, .ref 50)] := by
  intro τ S H μ hC hM
  by_cases h : yne τ = 0
  · exact ⟨_, τ, S, H, zs_back_b h hC, fun _ q => zs_backm_b h q⟩
  · exact ⟨_, _, S, H, zs_back (by omega) hC, fun _ q => zs_backm (by omega) q⟩
set_option maxRecDepth 100000 in
set_option maxHeartbeats 400000 in
theorem zs_seen_b (v1 v2 v3 : Int32) (hg : ¬ ((0 ≤ v1 ∧ v1 ≤ nI 23) ∧ (0 ≤ v2 ∧ v2 ≤ nI 7) ∧ (0 ≤ v3 ∧ v3 ≤ nI 7))) {τ : zTd} {S : zES} {H : zSH} {μ0 : zq_Me} (hC : zIc τ S H μ0) : zq_Wp zn_X8_seen 0 [(0, .ref 0), (1, .int v1), (2, .int v2), (3, .int v3)] [] μ0 (zRc (.int (-2)) τ S H μ0) := by
  refine zq_go zt_X8_seen 1 [] 1 [(0, .ref 0), (1, .int v1), (2, .int v2), (3, .int v3)] [.int v1] μ0 rfl trivial ?_
  refine zq_call zt_X8_seen [.int v1] [] (zs_isHour v1 μ0) rfl rfl ?_
  rintro _ _ ⟨rfl, rfl⟩
  refine zq_go zt_X8_seen 1 [] (if (zb (0 ≤ v1 ∧ v1 ≤ nI 23)) = 0 then 24 else 7) [(0, .ref 0), (1, .int v1), (2, .int v2), (3, .int v3)] [] μ0 rfl trivial ?_
  refine zq_ite (fun h4 => ?_) (fun h4 => ?_)
  · refine zq_go zt_X8_seen 1 [] 26 [(0, .ref 0), (1, .int v1), (2, .int v2), (3, .int v3)] [.int (-2)] μ0 rfl trivial ?_
    exact zq_retn zt_X8_seen rfl rfl (⟨rfl, hC, zq_fr.rf⟩)
  · have g0 := zb_p h4
    refine zq_go zt_X8_seen 3 [] 11 [(0, .ref 0), (1, .int v1), (2, .int v2), (3, .int v3)] [.int (nI 7), .int (nI 0), .int v2] μ0 rfl trivial ?_
    refine zq_call zt_X8_seen [.int v2, .int (nI 0), .int (nI 7)] [] (zs_within v2 (nI 0) (nI 7) μ0) rfl rfl ?_
    rintro _ _ ⟨rfl, rfl⟩
    refine zq_go zt_X8_seen 1 [] (if (zb (0 ≤ v2 ∧ v2 ≤ nI 7)) = 0 then 24 else 17) [(0, .ref 0), (1, .int v1), (2, .int v2), (3, .int v3)] [] μ0 rfl trivial ?_
    refine zq_ite (fun h12 => ?_) (fun h12 => ?_)
    · refine zq_go zt_X8_seen 1 [] 26 [(0, .ref 0), (1, .int v1), (2, .int v2), (3, .int v3)] [.int (-2)] μ0 rfl trivial ?_
      exact zq_retn zt_X8_seen rfl rfl (⟨rfl, hC, zq_fr.rf⟩)
    · have g1 := zb_p h12
      refine zq_go zt_X8_seen 1 [] 18 [(0, .ref 0), (1, .int v1), (2, .int v2), (3, .int v3)] [.int v3] μ0 rfl trivial ?_
      refine zq_call zt_X8_seen [.int v3] [] (zs_isRoom v3 μ0) rfl rfl ?_
      rintro _ _ ⟨rfl, rfl⟩
      refine zq_go zt_X8_seen 1 [] (if ¬ (zb (0 ≤ v3 ∧ v3 ≤ nI 7)) = 0 then 27 else 24) [(0, .ref 0), (1, .int v1), (2, .int v2), (3, .int v3)] [] μ0 rfl trivial ?_
      refine zq_ite (fun h20 => ?_) (fun h20 => ?_)
      · have g2 := zb_p h20
        exact absurd ⟨g0, g1, g2⟩ hg
      · refine zq_go zt_X8_seen 1 [] 26 [(0, .ref 0), (1, .int v1), (2, .int v2), (3, .int v3)] [.int (-2)] μ0 rfl trivial ?_
        exact zq_retn zt_X8_seen rfl rfl (⟨rfl, hC, zq_fr.rf⟩)
set_option maxRecDepth 100000 in
set_option maxHeartbeats 400000 in
theorem zs_seenm_b (v1 v2 v3 : Int32) (hg : ¬ ((0 ≤ v1 ∧ v1 ≤ nI 23) ∧ (0 ≤ v2 ∧ v2 ≤ nI 7) ∧ (0 ≤ v3 ∧ v3 ≤ nI 7))) {τ : zTd} {S : zES} {H : zSH} {μ0 : zq_Me} (hM : zIm τ S H μ0) : zq_Wp zn_X9_seen 0 [(0, .ref 50), (1, .int v1), (2, .int v2), (3, .int v3)] [] μ0 (zRm' (.int (-2)) τ S H μ0) := by
  refine zq_go zt_X9_seen 1 [] 1 [(0, .ref 50), (1, .int v1), (2, .int v2), (3, .int v3)] [.int v1] μ0 rfl trivial ?_
  refine zq_call zt_X9_seen [.int v1] [] (zs_isHourm v1 μ0) rfl rfl ?_
  rintro _ _ ⟨rfl, rfl⟩
  refine zq_go zt_X9_seen 1 [] (if (zb (0 ≤ v1 ∧ v1 ≤ nI 23)) = 0 then 21 else 7) [(0, .ref 50), (1, .int v1), (2, .int v2), (3, .int v3)] [] μ0 rfl trivial ?_
  refine zq_ite (fun h4 => ?_) (fun h4 => ?_)
  · refine zq_go zt_X9_seen 1 [] 23 [(0, .ref 50), (1, .int v1), (2, .int v2), (3, .int v3)] [.int (-2)] μ0 rfl trivial ?_
    exact zq_retn zt_X9_seen rfl rfl (⟨rfl, hM, zq_fr.rf⟩)
  · have g0 := zb_p h4
    refine zq_go zt_X9_seen 1 [] 8 [(0, .ref 50), (1, .int v1), (2, .int v2), (3, .int v3)] [.int v2] μ0 rfl trivial ?_
    refine zq_call zt_X9_seen [.int v2] [] (zs_isEightm v2 μ0) rfl rfl ?_
    rintro _ _ ⟨rfl, rfl⟩
    refine zq_go zt_X9_seen 1 [] (if (zb (0 ≤ v2 ∧ v2 ≤ nI 7)) = 0 then 21 else 14) [(0, .ref 50), (1, .int v1), (2, .int v2), (3, .int v3)] [] μ0 rfl trivial ?_
    refine zq_ite (fun h12 => ?_) (fun h12 => ?_)
    · refine zq_go zt_X9_seen 1 [] 23 [(0, .ref 50), (1, .int v1), (2, .int v2), (3, .int v3)] [.int (-2)] μ0 rfl trivial ?_
      exact zq_retn zt_X9_seen rfl rfl (⟨rfl, hM, zq_fr.rf⟩)
    · have g1 := zb_p h12
      refine zq_go zt_X9_seen 1 [] 15 [(0, .ref 50), (1, .int v1), (2, .int v2), (3, .int v3)] [.int v3] μ0 rfl trivial ?_
      refine zq_call zt_X9_seen [.int v3] [] (zs_isEightm v3 μ0) rfl rfl ?_
      rintro _ _ ⟨rfl, rfl⟩
      refine zq_go zt_X9_seen 1 [] (if ¬ (zb (0 ≤ v3 ∧ v3 ≤ nI 7)) = 0 then 24 else 21) [(0, .ref 50), (1, .int v1), (2, .int v2), (3, .int v3)] [] μ0 rfl trivial ?_
      refine zq_ite (fun h20 => ?_) (fun h20 => ?_)
      · have g2 := zb_p h20
        exact absurd ⟨g0, g1, g2⟩ hg
      · refine zq_go zt_X9_seen 1 [] 23 [(0, .ref 50), (1, .int v1), (2, .int v2), (3, .int v3)] [.int (-2)] μ0 rfl trivial ?_
        exact zq_retn zt_X9_seen rfl rfl (⟨rfl, hM, zq_fr.rf⟩)
set_option maxRecDepth 100000 in
set_option maxHeartbeats 400000 in
theorem zs_seenF {x p r : Nat} (lx : x ≤ 23) (lp : p ≤ 7) (lr : r ≤ 7) {τ : zTd} {S : zES} {H : zSH} {μ0 : zq_Me} (hE : S.1 = 8) (hC : zIc τ S H μ0) : zq_Wp zn_X8_seen 0 [(0, .ref 0), (1, .int (nI x)), (2, .int (nI p)), (3, .int (nI r))] [] μ0 (zRc (.int (-4)) τ S H μ0) := by
  have hle := hC.2.2.2.2.2.2.2.1.1
  refine zq_go zt_X8_seen 1 [] 1 [(0, .ref 0), (1, .int (nI x)), (2, .int (nI p)), (3, .int (nI r))] [.int (nI x)] μ0 rfl trivial ?_
  refine zq_call zt_X8_seen [.int (nI x)] [] (zs_isHour (nI x) μ0) rfl rfl ?_
  rintro _ _ ⟨rfl, rfl⟩
  refine zq_go zt_X8_seen 1 [] (if (zb (0 ≤ nI x ∧ nI x ≤ nI 23)) = 0 then 24 else 7) [(0, .ref 0), (1, .int (nI x)), (2, .int (nI p)), (3, .int (nI r))] [] μ0 rfl trivial ?_
  rw [if_neg (zb_n (yin (by omega) (by decide)))]
  refine zq_go zt_X8_seen 3 [] 11 [(0, .ref 0), (1, .int (nI x)), (2, .int (nI p)), (3, .int (nI r))] [.int (nI 7), .int (nI 0), .int (nI p)] μ0 rfl trivial ?_
  refine zq_call zt_X8_seen [.int (nI p), .int (nI 0), .int (nI 7)] [] (zs_within (nI p) (nI 0) (nI 7) μ0) rfl rfl ?_
  rintro _ _ ⟨rfl, rfl⟩
  refine zq_go zt_X8_seen 1 [] (if (zb (0 ≤ nI p ∧ nI p ≤ nI 7)) = 0 then 24 else 17) [(0, .ref 0), (1, .int (nI x)), (2, .int (nI p)), (3, .int (nI r))] [] μ0 rfl trivial ?_
  rw [if_neg (zb_n (yin (by omega) (by decide)))]
  refine zq_go zt_X8_seen 1 [] 18 [(0, .ref 0), (1, .int (nI x)), (2, .int (nI p)), (3, .int (nI r))] [.int (nI r)] μ0 rfl trivial ?_
  refine zq_call zt_X8_seen [.int (nI r)] [] (zs_isRoom (nI r) μ0) rfl rfl ?_
  rintro _ _ ⟨rfl, rfl⟩
  refine zq_go zt_X8_seen 1 [] (if ¬ (zb (0 ≤ nI r ∧ nI r ≤ nI 7)) = 0 then 27 else 24) [(0, .ref 0), (1, .int (nI x)), (2, .int (nI p)), (3, .int (nI r))] [] μ0 rfl trivial ?_
  rw [if_pos (zb_n (yin (by omega) (by decide)))]
  refine zq_go zt_X8_seen 5 [] (if (μ0.1 20 3) < (nI 8) then 42 else 39) [(0, .ref 0), (1, .int (nI x)), (2, .int (nI p)), (3, .int (nI r))] [] μ0 rfl trivial ?_
  rw [hC.2.2.2.2.2.2.2.1.2.1]
  rw [if_neg (by rw [zn_lt (by omega) (by omega)]; omega)]
  refine zq_go zt_X8_seen 1 [] 41 [(0, .ref 0), (1, .int (nI x)), (2, .int (nI p)), (3, .int (nI r))] [.int (-4)] μ0 rfl trivial ?_
  exact zq_retn zt_X8_seen rfl rfl (⟨rfl, hC, zq_fr.rf⟩)
set_option maxRecDepth 100000 in
set_option maxHeartbeats 400000 in
theorem zs_seenmF {x p r : Nat} (lx : x ≤ 23) (lp : p ≤ 7) (lr : r ≤ 7) {τ : zTd} {S : zES} {H : zSH} {μ0 : zq_Me} (hE : S.1 = 8) (hM : zIm τ S H μ0) : zq_Wp zn_X9_seen 0 [(0, .ref 50), (1, .int (nI x)), (2, .int (nI p)), (3, .int (nI r))] [] μ0 (zRm' (.int (-4)) τ S H μ0) := by
  have hle := hM.2.2.2.1.1
  refine zq_go zt_X9_seen 1 [] 1 [(0, .ref 50), (1, .int (nI x)), (2, .int (nI p)), (3, .int (nI r))] [.int (nI x)] μ0 rfl trivial ?_
  refine zq_call zt_X9_seen [.int (nI x)] [] (zs_isHourm (nI x) μ0) rfl rfl ?_
  rintro _ _ ⟨rfl, rfl⟩
  refine zq_go zt_X9_seen 1 [] (if (zb (0 ≤ nI x ∧ nI x ≤ nI 23)) = 0 then 21 else 7) [(0, .ref 50), (1, .int (nI x)), (2, .int (nI p)), (3, .int (nI r))] [] μ0 rfl trivial ?_
  rw [if_neg (zb_n (yin (by omega) (by decide)))]
  refine zq_go zt_X9_seen 1 [] 8 [(0, .ref 50), (1, .int (nI x)), (2, .int (nI p)), (3, .int (nI r))] [.int (nI p)] μ0 rfl trivial ?_
  refine zq_call zt_X9_seen [.int (nI p)] [] (zs_isEightm (nI p) μ0) rfl rfl ?_
  rintro _ _ ⟨rfl, rfl⟩
  refine zq_go zt_X9_seen 1 [] (if (zb (0 ≤ nI p ∧ nI p ≤ nI 7)) = 0 then 21 else 14) [(0, .ref 50), (1, .int (nI x)), (2, .int (nI p)), (3, .int (nI r))] [] μ0 rfl trivial ?_
  rw [if_neg (zb_n (yin (by omega) (by decide)))]
  refine zq_go zt_X9_seen 1 [] 15 [(0, .ref 50), (1, .int (nI x)), (2, .int (nI p)), (3, .int (nI r))] [.int (nI r)] μ0 rfl trivial ?_
  refine zq_call zt_X9_seen [.int (nI r)] [] (zs_isEightm (nI r) μ0) rfl rfl ?_
  rintro _ _ ⟨rfl, rfl⟩
  refine zq_go zt_X9_seen 1 [] (if ¬ (zb (0 ≤ nI r ∧ nI r ≤ nI 7)) = 0 then 24 else 21) [(0, .ref 50), (1, .int (nI x)), (2, .int (nI p)), (3, .int (nI r))] [] μ0 rfl trivial ?_
  rw [if_pos (zb_n (yin (by omega) (by decide)))]
  refine zq_go zt_X9_seen 4 [] (if ¬ (μ0.1 50 26) = (nI 8) then 36 else 33) [(0, .ref 50), (1, .int (nI x)), (2, .int (nI p)), (3, .int (nI r))] [] μ0 rfl trivial ?_
  rw [hM.2.2.2.1.2.1]
  rw [if_neg (by rw [zn_eq (by omega) (by omega)]; omega)]
  refine zq_go zt_X9_seen 1 [] 35 [(0, .ref 50), (1, .int (nI x)), (2, .int (nI p)), (3, .int (nI r))] [.int (-4)] μ0 rfl trivial ?_
  exact zq_retn zt_X9_seen rfl rfl (⟨rfl, hM, zq_fr.rf⟩)
set_option maxRecDepth 100000 in
set_option maxHeartbeats 400000 in
theorem zs_seen {x p r : Nat} (lx : x ≤ 23) (lp : p ≤ 7) (lr : r ≤ 7) {τ : zTd} {S : zES} {H : zSH} {μ0 : zq_Me} (hE : S.1 < 8) (hC : zIc τ S H μ0) : zq_Wp zn_X8_seen 0 [(0, .ref 0), (1, .int (nI x)), (2, .int (nI p)), (3, .int (nI r))] [] μ0 (zRc (.int (nI (S.1 + 1))) τ (ypu S x p r) H μ0) := by
  have hle := hC.2.2.2.2.2.2.2.1.1
  refine zq_go zt_X8_seen 1 [] 1 [(0, .ref 0), (1, .int (nI x)), (2, .int (nI p)), (3, .int (nI r))] [.int (nI x)] μ0 rfl trivial ?_
  refine zq_call zt_X8_seen [.int (nI x)] [] (zs_isHour (nI x) μ0) rfl rfl ?_
  rintro _ _ ⟨rfl, rfl⟩
  refine zq_go zt_X8_seen 1 [] (if (zb (0 ≤ nI x ∧ nI x ≤ nI 23)) = 0 then 24 else 7) [(0, .ref 0), (1, .int (nI x)), (2, .int (nI p)), (3, .int (nI r))] [] μ0 rfl trivial ?_
  rw [if_neg (zb_n (yin (by omega) (by decide)))]
  refine zq_go zt_X8_seen 3 [] 11 [(0, .ref 0), (1, .int (nI x)), (2, .int (nI p)), (3, .int (nI r))] [.int (nI 7), .int (nI 0), .int (nI p)] μ0 rfl trivial ?_
  refine zq_call zt_X8_seen [.int (nI p), .int (nI 0), .int (nI 7)] [] (zs_within (nI p) (nI 0) (nI 7) μ0) rfl rfl ?_
  rintro _ _ ⟨rfl, rfl⟩
  refine zq_go zt_X8_seen 1 [] (if (zb (0 ≤ nI p ∧ nI p ≤ nI 7)) = 0 then 24 else 17) [(0, .ref 0), (1, .int (nI x)), (2, .int (nI p)), (3, .int (nI r))] [] μ0 rfl trivial ?_
  rw [if_neg (zb_n (yin (by omega) (by decide)))]
  refine zq_go zt_X8_seen 1 [] 18 [(0, .ref 0), (1, .int (nI x)), (2, .int (nI p)), (3, .int (nI r))] [.int (nI r)] μ0 rfl trivial ?_
  refine zq_call zt_X8_seen [.int (nI r)] [] (zs_isRoom (nI r) μ0) rfl rfl ?_
  rintro _ _ ⟨rfl, rfl⟩
  refine zq_go zt_X8_seen 1 [] (if ¬ (zb (0 ≤ nI r ∧ nI r ≤ nI 7)) = 0 then 27 else 24) [(0, .ref 0), (1, .int (nI x)), (2, .int (nI p)), (3, .int (nI r))] [] μ0 rfl trivial ?_
  rw [if_pos (zb_n (yin (by omega) (by decide)))]
  refine zq_go zt_X8_seen 5 [] (if (μ0.1 20 3) < (nI 8) then 42 else 39) [(0, .ref 0), (1, .int (nI x)), (2, .int (nI p)), (3, .int (nI r))] [] μ0 rfl trivial ?_
  rw [hC.2.2.2.2.2.2.2.1.2.1]
  rw [if_pos (by rw [zn_lt (by omega) (by omega)]; omega)]
  refine zq_go zt_X8_seen 5 [] 49 [(0, .ref 0), (1, .int (nI x)), (2, .int (nI p)), (3, .int (nI r))] [.int (nI r), .int (nI p), .int (nI x), .ref 20] μ0 rfl trivial ?_
  refine zq_call zt_X8_seen [.ref 20, .int (nI x), .int (nI p), .int (nI r)] [] (zs_add20 (nI x) (nI p) (nI r) hE hC.2.2.2.2.2.2.2.1.2.1) rfl rfl ?_
  rintro _ μ1 ⟨rfl, f1, s1, i1, a1, a2, a3⟩
  have hI := hC.sn (ypu S x p r) f1 (zSi.pu hC.2.2.2.2.2.2.2.1 hE ⟨by omega, by omega, by omega⟩ s1 a1 a2 a3)
  refine zq_go zt_X8_seen 3 [] 59 [(0, .ref 0), (1, .int (nI x)), (2, .int (nI p)), (3, .int (nI r))] [.int (μ1.1 20 3)] μ1 rfl trivial ?_
  rw [s1]
  exact zq_retn zt_X8_seen rfl rfl (⟨rfl, hI, f1.wk (by simp +contextual [zSC])⟩)
set_option maxRecDepth 100000 in
set_option maxHeartbeats 400000 in
theorem zs_seenm {x p r : Nat} (lx : x ≤ 23) (lp : p ≤ 7) (lr : r ≤ 7) {τ : zTd} {S : zES} {H : zSH} {μ0 : zq_Me} (hE : S.1 < 8) (hM : zIm τ S H μ0) : zq_Wp zn_X9_seen 0 [(0, .ref 50), (1, .int (nI x)), (2, .int (nI p)), (3, .int (nI r))] [] μ0 (zRm' (.int (nI (S.1 + 1))) τ (ypu S x p r) H μ0) := by
  have hle := hM.2.2.2.1.1
  refine zq_go zt_X9_seen 1 [] 1 [(0, .ref 50), (1, .int (nI x)), (2, .int (nI p)), (3, .int (nI r))] [.int (nI x)] μ0 rfl trivial ?_
  refine zq_call zt_X9_seen [.int (nI x)] [] (zs_isHourm (nI x) μ0) rfl rfl ?_
  rintro _ _ ⟨rfl, rfl⟩
  refine zq_go zt_X9_seen 1 [] (if (zb (0 ≤ nI x ∧ nI x ≤ nI 23)) = 0 then 21 else 7) [(0, .ref 50), (1, .int (nI x)), (2, .int (nI p)), (3, .int (nI r))] [] μ0 rfl trivial ?_
  rw [if_neg (zb_n (yin (by omega) (by decide)))]
  refine zq_go zt_X9_seen 1 [] 8 [(0, .ref 50), (1, .int (nI x)), (2, .int (nI p)), (3, .int (nI r))] [.int (nI p)] μ0 rfl trivial ?_
  refine zq_call zt_X9_seen [.int (nI p)] [] (zs_isEightm (nI p) μ0) rfl rfl ?_
  rintro _ _ ⟨rfl, rfl⟩
  refine zq_go zt_X9_seen 1 [] (if (zb (0 ≤ nI p ∧ nI p ≤ nI 7)) = 0 then 21 else 14) [(0, .ref 50), (1, .int (nI x)), (2, .int (nI p)), (3, .int (nI r))] [] μ0 rfl trivial ?_
  rw [if_neg (zb_n (yin (by omega) (by decide)))]
  refine zq_go zt_X9_seen 1 [] 15 [(0, .ref 50), (1, .int (nI x)), (2, .int (nI p)), (3, .int (nI r))] [.int (nI r)] μ0 rfl trivial ?_
  refine zq_call zt_X9_seen [.int (nI r)] [] (zs_isEightm (nI r) μ0) rfl rfl ?_
  rintro _ _ ⟨rfl, rfl⟩
  refine zq_go zt_X9_seen 1 [] (if ¬ (zb (0 ≤ nI r ∧ nI r ≤ nI 7)) = 0 then 24 else 21) [(0, .ref 50), (1, .int (nI x)), (2, .int (nI p)), (3, .int (nI r))] [] μ0 rfl trivial ?_
  rw [if_pos (zb_n (yin (by omega) (by decide)))]
  refine zq_go zt_X9_seen 4 [] (if ¬ (μ0.1 50 26) = (nI 8) then 36 else 33) [(0, .ref 50), (1, .int (nI x)), (2, .int (nI p)), (3, .int (nI r))] [] μ0 rfl trivial ?_
  rw [hM.2.2.2.1.2.1]
  rw [if_pos (by rw [zn_eq (by omega) (by omega)]; omega)]
  refine zq_go zt_X9_seen 24 [vp_in (μ0.1 50 26) 8, vp_in (μ0.1 50 26) 8, vp_in (μ0.1 50 26) 8] 76 [(0, .ref 50), (1, .int (nI x)), (2, .int (nI p)), (3, .int (nI r))] [] (zq_u1 (zq_u1 (zq_u1 (zq_u1 μ0 68 ((μ0.1 50 26).toNatClampNeg) (nI x)) 69 ((μ0.1 50 26).toNatClampNeg) (nI p)) 70 ((μ0.1 50 26).toNatClampNeg) (nI r)) 50 26 ((μ0.1 50 26) + (nI 1))) rfl ⟨zn_in (k := S.1) (by rw [hM.2.2.2.1.2.1]) (by omega) (by decide), ⟨zn_in (k := S.1) (by rw [hM.2.2.2.1.2.1]) (by omega) (by decide), ⟨zn_in (k := S.1) (by rw [hM.2.2.2.1.2.1]) (by omega) (by decide), trivial⟩⟩⟩ ?_
  rw [hM.2.2.2.1.2.1, zn_cl (n := S.1) (by omega), zn_add S.1 1]
  obtain ⟨μ1, hμ1⟩ : ∃ k9 : zq_Me, k9 = (zq_u1 (zq_u1 (zq_u1 (zq_u1 μ0 68 S.1 (nI x)) 69 S.1 (nI p)) 70 S.1 (nI r)) 50 26 (nI (S.1 + 1))) := ⟨_, rfl⟩
  rw [← hμ1]
  have f1 : zq_fr [50, 68, 69, 70] μ0 μ1 := by rw [hμ1]; exact (((zq_fr.rf.u1 (by simp)).u1 (by simp)).u1 (by simp)).u1 (by simp)
  have s1 : ∀ i, i ≠ 26 → μ1.1 50 i = μ0.1 50 i := fun i hi => by rw [hμ1, zq_u1_o2 hi, zq_u1_ne (by decide), zq_u1_ne (by decide), zq_u1_ne (by decide)]
  have hz : μ1.1 50 26 = nI (S.1 + 1) := by rw [hμ1, zq_u1_s]
  have hI := hM.sn (ypu S x p r) f1 s1 (zSi.pu hM.2.2.2.1 hE ⟨by omega, by omega, by omega⟩ hz (fun i => by rw [hμ1, zq_u1_ne (by decide), zq_u1_ne (by decide), zq_u1_ne (by decide), zq_u1_rd]) (fun i => by rw [hμ1, zq_u1_ne (by decide), zq_u1_ne (by decide), zq_u1_rd, zq_u1_ne (by decide)]) (fun i => by rw [hμ1, zq_u1_ne (by decide), zq_u1_rd, zq_u1_ne (by decide), zq_u1_ne (by decide)]))
  refine zq_go zt_X9_seen 2 [] 80 [(0, .ref 50), (1, .int (nI x)), (2, .int (nI p)), (3, .int (nI r))] [.int (μ1.1 50 26)] μ1 rfl trivial ?_
  rw [hz]
  exact zq_retn zt_X9_seen rfl rfl (⟨rfl, hI, f1.wk (by simp +contextual [zSM])⟩)
theorem zo_seen (v1 v2 v3 : Int32) : zop zn_X8_seen [(0, .ref 0), (1, .int v1), (2, .int v2), (3, .int v3)] zn_X9_seen [(0, .ref 50), (1, .int v1), (2, .int v2), (3, .int v3)] := by
  intro τ S H μ hC hM
  by_cases hg : (0 ≤ v1 ∧ v1 ≤ nI 23) ∧ (0 ≤ v2 ∧ v2 ≤ nI 7) ∧ (0 ≤ v3 ∧ v3 ≤ nI 7)
  · obtain ⟨x, lx, rfl⟩ := yix (by decide) hg.1
    obtain ⟨p, lp, rfl⟩ := yix (by decide) hg.2.1
    obtain ⟨r, lr, rfl⟩ := yix (by decide) hg.2.2
    have hle := hM.2.2.2.1.1
    by_cases h : S.1 < 8
    · exact ⟨_, τ, _, H, zs_seen lx lp lr h hC, fun _ q => zs_seenm lx lp lr h q⟩
    · exact ⟨_, τ, S, H, zs_seenF lx lp lr (by omega) hC, fun _ q => zs_seenmF lx lp lr (by omega) q⟩
  · exact ⟨_, τ, S, H, zs_seen_b v1 v2 v3 hg hC, fun _ q => zs_seenm_b v1 v2 v3 hg q⟩
set_option maxRecDepth 100000 in
set_option maxHeartbeats 400000 in
theorem zs_forget {τ : zTd} {S : zES} {H : zSH} {μ0 : zq_Me} (hC : zIc τ S H μ0) : zq_Wp zn_X8_forget 0 [(0, .ref 0)] [] μ0 (zRc (.int (nI S.1)) τ (0, S.2) H μ0) := by
  refine zq_go zt_X8_forget 9 [] 17 [(0, .ref 0), (1, .int (μ0.1 20 3))] [.int (μ0.1 20 3)] (zq_u1 μ0 20 3 (nI 0)) rfl trivial ?_
  rw [hC.2.2.2.2.2.2.2.1.2.1]
  obtain ⟨μ1, hμ1⟩ : ∃ k9 : zq_Me, k9 = (zq_u1 μ0 20 3 (nI 0)) := ⟨_, rfl⟩
  rw [← hμ1]
  have f1 : zq_fr [20] μ0 μ1 := by rw [hμ1]; exact zq_fr.rf.u1 (by simp)
  have hI := hC.sn (0, S.2) (f1.wk (by simp)) ⟨Nat.zero_le _, by rw [hμ1, zq_u1_s], fun i hi => absurd hi (Nat.not_lt_zero i)⟩
  exact zq_retn zt_X8_forget rfl rfl (⟨rfl, hI, f1.wk (by simp [zSC])⟩)
set_option maxRecDepth 100000 in
set_option maxHeartbeats 400000 in
theorem zs_forgetm {τ : zTd} {S : zES} {H : zSH} {μ0 : zq_Me} (hM : zIm τ S H μ0) : zq_Wp zn_X9_forget 0 [(0, .ref 50)] [] μ0 (zRm' (.int (nI S.1)) τ (0, S.2) H μ0) := by
  refine zq_go zt_X9_forget 7 [] 11 [(0, .ref 50), (1, .int (μ0.1 50 26))] [.int (μ0.1 50 26)] (zq_u1 μ0 50 26 (nI 0)) rfl trivial ?_
  rw [hM.2.2.2.1.2.1]
  obtain ⟨μ1, hμ1⟩ : ∃ k9 : zq_Me, k9 = (zq_u1 μ0 50 26 (nI 0)) := ⟨_, rfl⟩
  rw [← hμ1]
  have f1 : zq_fr [50] μ0 μ1 := by rw [hμ1]; exact zq_fr.rf.u1 (by simp)
  have hI := hM.sn (0, S.2) (f1.wk (by simp)) (fun i hi => by rw [hμ1, zq_u1_o2 hi]) ⟨Nat.zero_le _, by rw [hμ1, zq_u1_s], fun i hi => absurd hi (Nat.not_lt_zero i)⟩
  exact zq_retn zt_X9_forget rfl rfl (⟨rfl, hI, f1.wk (by simp [zSM])⟩)
theorem zo_forget : zop zn_X8_forget [(0, .ref 0)] zn_X9_forget [(0, .ref 50)] := fun τ S H μ hC _ => ⟨_, τ, _, H, zs_forget hC, fun _ h => zs_forgetm h⟩
