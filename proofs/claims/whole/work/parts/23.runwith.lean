/-! ===== the class: runWith ===== -/
/-- what a week has laid before anybody goes -/
def zWk33 (nd ld : Nat) (o1 o2 ek eh en : Nat → Nat) (wo ne : Nat) (μ : zq_Me) : Prop := μ.1 33 10 = nI ld ∧ (∀ i, i < 24 → μ.1 35 i = zdn (zHm ek eh en wo ne i) ∧ zHm ek eh en wo ne i ≤ 8) ∧ (∀ i, i < 24 → μ.1 37 i = nI (zsp (zSh ek eh en wo ne) i * 64) ∧ zsp (zSh ek eh en wo ne) i ≤ 8) ∧ ∀ i x t, i < 24 → x < 8 → t < 8 → μ.1 38 (zsp (zSh ek eh en wo ne) i * 64 + x * 8 + t) = nI (zNx nd o1 o2 (zSh ek eh en wo ne) i t x)
theorem zWk33.fr {nd ld ne wo : Nat} {o1 o2 ek eh en : Nat → Nat} {μ μ1 : zq_Me} {S : List Nat} (h : zWk33 nd ld o1 o2 ek eh en wo ne μ) (hf : zq_fr S μ μ1) (hs : 33 ∉ S ∧ 35 ∉ S ∧ 37 ∉ S ∧ 38 ∉ S) : zWk33 nd ld o1 o2 ek eh en wo ne μ1 :=
  ⟨by rw [hf.a hs.1]; exact h.1, by rw [hf.a hs.2.1]; exact h.2.1, by rw [hf.a hs.2.2.1]; exact h.2.2.1, by rw [hf.a hs.2.2.2]; exact h.2.2.2⟩
set_option maxRecDepth 100000 in
set_option maxHeartbeats 4000000 in
theorem zs_rw33_a {Q : zq_Post} {nd np ne wo ld : Nat} {o1 o2 srt stt bed ek eh en : Nat → Nat} {μ0 : zq_Me} (hl9 : ld ≤ 9) (hn : zEn ne ek en) (hP0 : zP33 np srt stt bed μ0) (hW0 : zWk33 nd ld o1 o2 ek eh en wo ne μ0) (kk : ∀ μ : zq_Me, (zq_fr [34] μ0 μ ∧ ∀ q h, q < np → 0 ≤ q ∧ srt q ≠ 2 → h < 24 → μ.1 34 (h * 8 + q) = nI (zR (zNx nd o1 o2 (zSh ek eh en wo ne)) srt stt bed (zHm ek eh en wo ne) ld np q h)) → zq_Wp zn_X7_runWith 83 [(0, .ref 33), (4, .int (nI np)), (5, .int (zdn (zcx srt np)))] [] μ Q) : ∀ (n : Nat) (μ : zq_Me), n ≤ np → (zq_fr [34] μ0 μ ∧ ∀ q h, q < np → n ≤ q ∧ srt q ≠ 2 → h < 24 → μ.1 34 (h * 8 + q) = nI (zR (zNx nd o1 o2 (zSh ek eh en wo ne)) srt stt bed (zHm ek eh en wo ne) ld np q h)) → zq_Wp zn_X7_runWith 41 [(0, .ref 33), (4, .int (nI np)), (5, .int (zdn (zck srt np n))), (6, .int (zdn n))] [] μ Q := by
  intro n
  induction n with
  | zero =>
    intro μ hn8 hI
    refine zq_go zt_X7_runWith 2 [] (if (zdn 0) < 0 then 83 else 46) [(0, .ref 33), (4, .int (nI np)), (5, .int (zdn (zck srt np 0))), (6, .int (zdn 0))] [] μ rfl trivial ?_
    rw [if_pos (zdn_neg)]
    exact zq_drp [0, 4, 5] [(0, .ref 33), (4, .int (nI np)), (5, .int (zdn (zcx srt np)))] rfl (kk μ hI)
  | succ n ih =>
    intro μ hn8 hI
    have hP := hP0.fr hI.1 (by decide)
    have hW := hW0.fr hI.1 (by decide)
    have hn9 := hP.1
    have hq := hP.2.2 n (by omega)
    have hs2 := hq.2.1
    show zq_Wp zn_X7_runWith 41 [(0, .ref 33), (4, .int (nI np)), (5, .int (zdn (zck srt np (n + 1)))), (6, .int (nI n))] [] μ Q
    refine zq_go zt_X7_runWith 2 [] (if (nI n) < 0 then 83 else 46) [(0, .ref 33), (4, .int (nI np)), (5, .int (zdn (zck srt np (n + 1)))), (6, .int (nI n))] [] μ rfl trivial ?_
    rw [if_neg (zn_notneg (by omega))]
    have key : zq_Wp zn_X7_runWith 60 [(0, .ref 33), (4, .int (nI np)), (5, .int (zdn (zck srt np n))), (6, .int (nI n))] [] μ Q := by
      refine zq_go zt_X7_runWith 2 [] 63 [(0, .ref 33), (4, .int (nI np)), (5, .int (zdn (zck srt np n))), (6, .int (nI n))] [.int (nI n), .ref 33] μ rfl trivial ?_
      refine zq_call zt_X7_runWith [.ref 33, .int (nI n)] [] (zs_sortOf33 hP (show n < np by omega)) rfl rfl ?_
      rintro _ _ ⟨rfl, rfl⟩
      refine zq_go zt_X7_runWith 2 [] (if (nI (srt n)) = (nI 2) then 77 else 70) [(0, .ref 33), (4, .int (nI np)), (5, .int (zdn (zck srt np n))), (6, .int (nI n))] [] μ rfl trivial ?_
      refine zq_ite (fun h22 => ?_) (fun h22 => ?_)
      · have h2 : srt n = 2 := by
          rw [zn_eq (by omega) (by decide)] at h22
          omega
        refine zq_go zt_X7_runWith 2 [] 41 [(0, .ref 33), (4, .int (nI np)), (5, .int (zdn (zck srt np n))), (6, .int ((nI n) + (-1)))] [] μ rfl trivial ?_
        rw [zdn_dec]
        exact ih μ (by omega) ⟨hI.1, fun q h hq9 hd hh => hI.2 q h hq9 ⟨by have h7 := hd.1; have h8 : q ≠ n := (fun e => by rw [e] at hd; exact hd.2 h2); omega, hd.2⟩ hh⟩
      · have h2 : ¬ srt n = 2 := by
          rw [zn_eq (by omega) (by decide)] at h22
          exact h22
        refine zq_go zt_X7_runWith 3 [] 74 [(0, .ref 33), (4, .int (nI np)), (5, .int (zdn (zck srt np n))), (6, .int (nI n))] [.int (-1), .int (nI n), .ref 33] μ rfl trivial ?_
        refine zq_call zt_X7_runWith [.ref 33, .int (nI n), .int (-1)] [] (zs_walk33 (N := (zNx nd o1 o2 (zSh ek eh en wo ne))) (hm := (zHm ek eh en wo ne)) (tb := zsp (zSh ek eh en wo ne)) (hc := false) (cr := fun _ => 0) (cx := 0) hP (show n < np by omega) hl9 hW.1 hW.2.1 zHm_0 hW.2.2.1 hW.2.2.2 zNx_lt (fun _ _ => by decide) (by decide) rfl (fun c hc => absurd hc.symm (Nat.succ_ne_zero c))) rfl rfl ?_
        rintro _ μ1 ⟨rfl, g1, g2, g3⟩
        refine zq_go zt_X7_runWith 2 [] 41 [(0, .ref 33), (4, .int (nI np)), (5, .int (zdn (zck srt np n))), (6, .int ((nI n) + (-1)))] [] μ1 rfl trivial ?_
        rw [zdn_dec]
        refine ih μ1 (by omega) ⟨hI.1.tr g1, fun q h hq9 hd hh => ?_⟩
        by_cases h8 : q = n
        · subst h8; rw [g2 h hh, zR_ind h2 hs2]
        · rw [g3 _ (by omega)]; exact hI.2 q h hq9 ⟨by omega, hd.2⟩ hh
    refine zq_go zt_X7_runWith 2 [] 49 [(0, .ref 33), (4, .int (nI np)), (5, .int (zdn (zck srt np (n + 1)))), (6, .int (nI n))] [.int (nI n), .ref 33] μ rfl trivial ?_
    refine zq_call zt_X7_runWith [.ref 33, .int (nI n)] [] (zs_sortOf33 hP (show n < np by omega)) rfl rfl ?_
    rintro _ _ ⟨rfl, rfl⟩
    refine zq_go zt_X7_runWith 2 [] (if ¬ (nI (srt n)) = (nI 1) then 60 else 56) [(0, .ref 33), (4, .int (nI np)), (5, .int (zdn (zck srt np (n + 1)))), (6, .int (nI n))] [] μ rfl trivial ?_
    refine zq_ite (fun h45 => ?_) (fun h45 => ?_)
    · have h1 : ¬ srt n = 1 := by
        rw [zn_eq (by omega) (by decide)] at h45
        exact h45
      rw [zck_f h1] at key
      exact key
    · have h1 : srt n = 1 := by
        rw [zn_eq (by omega) (by decide)] at h45
        omega
      refine zq_go zt_X7_runWith 2 [] 60 [(0, .ref 33), (4, .int (nI np)), (5, .int (nI n)), (6, .int (nI n))] [] μ rfl trivial ?_
      rw [zck_t (by omega) h1] at key
      exact key
set_option maxRecDepth 100000 in
set_option maxHeartbeats 4000000 in
theorem zs_rw33_a0 {Q : zq_Post} {nd np ne wo ld : Nat} {o1 o2 srt stt bed ek eh en : Nat → Nat} {μ0 : zq_Me} (hl9 : ld ≤ 9) (hn : zEn ne ek en) (hP0 : zP33 np srt stt bed μ0) (hW0 : zWk33 nd ld o1 o2 ek eh en wo ne μ0) (kk : ∀ μ : zq_Me, (zq_fr [34] μ0 μ ∧ ∀ q h, q < np → 0 ≤ q ∧ srt q ≠ 2 → h < 24 → μ.1 34 (h * 8 + q) = nI (zR (zNx nd o1 o2 (zSh ek eh en wo ne)) srt stt bed (zHm ek eh en wo ne) ld np q h)) → zq_Wp zn_X7_runWith 83 [(0, .ref 33), (4, .int (nI np)), (5, .int (zdn (zcx srt np)))] [] μ Q) : zq_Wp zn_X7_runWith 41 [(0, .ref 33), (4, .int (nI np)), (5, .int (zdn 0)), (6, .int (zdn np))] [] μ0 Q := by
  have h9 := zs_rw33_a hl9 hn hP0 hW0 kk np μ0 (Nat.le_refl _) ⟨zq_fr.rf, fun q h hq hd _ => absurd hd.1 (by omega)⟩
  rw [zck_np] at h9
  exact h9
set_option maxRecDepth 100000 in
set_option maxHeartbeats 4000000 in
theorem zs_rw33_b {Q : zq_Post} {nd np ne wo ld : Nat} {o1 o2 srt stt bed ek eh en : Nat → Nat} {μ0 : zq_Me} (hl9 : ld ≤ 9) (hn : zEn ne ek en) (hP0 : zP33 np srt stt bed μ0) (hW0 : zWk33 nd ld o1 o2 ek eh en wo ne μ0) (kk : ∀ μ : zq_Me, (zq_fr [34] μ0 μ ∧ ∀ q h, q < np → (srt q ≠ 2 ∨ q < np) → h < 24 → μ.1 34 (h * 8 + q) = nI (zR (zNx nd o1 o2 (zSh ek eh en wo ne)) srt stt bed (zHm ek eh en wo ne) ld np q h)) → zq_Wp zn_X7_runWith 117 [] [] μ Q) : ∀ (j n : Nat) (μ : zq_Me), n + j = np → (zq_fr [34] μ0 μ ∧ ∀ q h, q < np → (srt q ≠ 2 ∨ q < n) → h < 24 → μ.1 34 (h * 8 + q) = nI (zR (zNx nd o1 o2 (zSh ek eh en wo ne)) srt stt bed (zHm ek eh en wo ne) ld np q h)) → zq_Wp zn_X7_runWith 86 [(0, .ref 33), (4, .int (nI np)), (5, .int (zdn (zcx srt np))), (6, .int (nI n))] [] μ Q := by
  intro j
  induction j with
  | zero =>
    intro n μ hij hI
    obtain rfl : n = np := by omega
    have hn9 := hP0.1
    refine zq_go zt_X7_runWith 3 [] (if (nI n) ≤ (nI n) then 117 else 93) [(0, .ref 33), (4, .int (nI n)), (5, .int (zdn (zcx srt n))), (6, .int (nI n))] [] μ rfl trivial ?_
    rw [if_pos (by rw [zn_le (by omega) (by omega)]; omega)]
    exact zq_drp [] [] rfl (kk μ hI)
  | succ j ih =>
    intro n μ hij hI
    have hP := hP0.fr hI.1 (by decide)
    have hW := hW0.fr hI.1 (by decide)
    have hn9 := hP.1
    have hq := hP.2.2 n (by omega)
    have hs2 := hq.2.1
    refine zq_go zt_X7_runWith 3 [] (if (nI np) ≤ (nI n) then 117 else 93) [(0, .ref 33), (4, .int (nI np)), (5, .int (zdn (zcx srt np))), (6, .int (nI n))] [] μ rfl trivial ?_
    rw [if_neg (by rw [zn_le (by omega) (by omega)]; omega)]
    refine zq_go zt_X7_runWith 2 [] 96 [(0, .ref 33), (4, .int (nI np)), (5, .int (zdn (zcx srt np))), (6, .int (nI n))] [.int (nI n), .ref 33] μ rfl trivial ?_
    refine zq_call zt_X7_runWith [.ref 33, .int (nI n)] [] (zs_sortOf33 hP (show n < np by omega)) rfl rfl ?_
    rintro _ _ ⟨rfl, rfl⟩
    refine zq_go zt_X7_runWith 2 [] (if ¬ (nI (srt n)) = (nI 2) then 111 else 103) [(0, .ref 33), (4, .int (nI np)), (5, .int (zdn (zcx srt np))), (6, .int (nI n))] [] μ rfl trivial ?_
    refine zq_ite (fun h22 => ?_) (fun h22 => ?_)
    · have h2 : ¬ srt n = 2 := by
        rw [zn_eq (by omega) (by decide)] at h22
        exact h22
      refine zq_go zt_X7_runWith 2 [] 86 [(0, .ref 33), (4, .int (nI np)), (5, .int (zdn (zcx srt np))), (6, .int ((nI n) + (nI 1)))] [] μ rfl trivial ?_
      rw [zn_add n 1]
      exact ih (n + 1) μ (by omega) ⟨hI.1, fun q h hq9 hd hh => hI.2 q h hq9 (hd.elim Or.inl (fun w => if h8 : q = n then Or.inl (by rw [h8]; exact h2) else Or.inr (by omega))) hh⟩
    · have h2 : srt n = 2 := by
        rw [zn_eq (by omega) (by decide)] at h22
        omega
      refine zq_go zt_X7_runWith 3 [] 108 [(0, .ref 33), (4, .int (nI np)), (5, .int (zdn (zcx srt np))), (6, .int (nI n))] [.int (zdn (zcx srt np)), .int (nI n), .ref 33] μ rfl trivial ?_
      have hcp : ∀ c, zcx srt np = c + 1 → c < 8 ∧ c ≠ n ∧ ∀ i, i < 24 → μ.1 34 (i * 8 + c) = nI (zcR (zNx nd o1 o2 (zSh ek eh en wo ne)) srt stt bed (zHm ek eh en wo ne) ld np i) := fun c hce => by
        obtain ⟨c1, c2⟩ := zcx_spec hce
        refine ⟨by omega, fun e => by rw [e] at c2; omega, fun i hi => ?_⟩
        rw [hI.2 c i c1 (Or.inl (by omega)) hi, zcR_c hce]
      refine zq_call zt_X7_runWith [.ref 33, .int (nI n), .int (zdn (zcx srt np))] [] (zs_walk33 (N := (zNx nd o1 o2 (zSh ek eh en wo ne))) (hm := (zHm ek eh en wo ne)) (tb := zsp (zSh ek eh en wo ne)) (hc := decide (¬ zcx srt np = 0)) (cr := zcR (zNx nd o1 o2 (zSh ek eh en wo ne)) srt stt bed (zHm ek eh en wo ne) ld np) (cx := zcx srt np) hP (show n < np by omega) hl9 hW.1 hW.2.1 zHm_0 hW.2.2.1 hW.2.2.2 zNx_lt (zcR_lt zNx_lt (fun p hp => ⟨(hP.2.2 p hp).2.1, (hP.2.2 p hp).2.2.2.1, (hP.2.2 p hp).2.2.2.2.2⟩) (fun i hi => (hW.2.1 i hi).2)) (by have := zck_le srt np 0; show zck srt np 0 ≤ 8; omega) rfl hcp) rfl rfl ?_
      rintro _ μ1 ⟨rfl, g1, g2, g3⟩
      refine zq_go zt_X7_runWith 2 [] 86 [(0, .ref 33), (4, .int (nI np)), (5, .int (zdn (zcx srt np))), (6, .int ((nI n) + (nI 1)))] [] μ1 rfl trivial ?_
      rw [zn_add n 1]
      refine ih (n + 1) μ1 (by omega) ⟨hI.1.tr g1, fun q h hq9 hd hh => ?_⟩
      by_cases h8 : q = n
      · subst h8; exact g2 h hh
      · rw [g3 _ (by omega)]; exact hI.2 q h hq9 (hd.imp id (fun w => by omega)) hh
set_option maxRecDepth 100000 in
set_option maxHeartbeats 4000000 in
theorem zs_rw33_11 {nd np ne wo ld : Nat} {o1 o2 srt stt bed ek eh en : Nat → Nat} {μ0 : zq_Me} (hl9 : ld ≤ 9) (hw : wo < 2 ^ 31) (hsp : zsp (zSh ek eh en wo ne) 23 ≤ 8) (hD0 : zD nd o1 o2 μ0) (hE0 : zEv 11 3 12 13 14 ne ek eh en μ0) (hP0 : zP33 np srt stt bed μ0) (hK0 : zK33 nd o1 o2 μ0) : zq_Wp zn_X7_runWith 0 [(0, .ref 33), (1, .ref 11), (2, .int (nI wo)), (3, .int (nI ld))] [] μ0 (fun r μ => r = none ∧ zq_fr [5, 33, 34, 35, 36, 37, 38, 39] μ0 μ ∧ (∀ i, i ≠ 9 → i ≠ 10 → μ.1 33 i = μ0.1 33 i) ∧ zK33 nd o1 o2 μ ∧ zWk33 nd ld o1 o2 ek eh en wo ne μ ∧ ∀ p h, p < np → h < 24 → μ.1 34 (h * 8 + p) = nI (zR (zNx nd o1 o2 (zSh ek eh en wo ne)) srt stt bed (zHm ek eh en wo ne) ld np p h)) := by
  refine zq_go zt_X7_runWith 10 [] 16 [(0, .ref 33), (1, .ref 11), (2, .int (nI wo)), (3, .int (nI ld))] [.ref 33] (zq_u1 (zq_u1 (zq_u3 μ0 33 8 11) 33 9 (nI wo)) 33 10 (nI ld)) rfl trivial ?_
  have f0 : zq_fr [5, 33, 34, 35, 36, 37, 38, 39] μ0 (zq_u1 (zq_u1 (zq_u3 μ0 33 8 11) 33 9 (nI wo)) 33 10 (nI ld)) := ((zq_fr.rf.u3 (by simp)).u1 (by simp)).u1 (by simp)
  obtain ⟨μ1, hμ1⟩ : ∃ k, k = zq_u1 (zq_u1 (zq_u3 μ0 33 8 11) 33 9 (nI wo)) 33 10 (nI ld) := ⟨_, rfl⟩
  rw [← hμ1]
  rw [← hμ1] at f0
  have s0 : ∀ i, i ≠ 9 → i ≠ 10 → μ1.1 33 i = μ0.1 33 i := fun i h9 h10 => by rw [hμ1, zq_u1_o2 h10, zq_u1_o2 h9]; rfl
  have b0 : ∀ b, b ≠ 33 → μ1.1 b = μ0.1 b := fun b hb => by rw [hμ1, zq_u1_ne hb, zq_u1_ne hb]; rfl
  have hev : μ1.2.2.1 33 8 = 11 := by rw [hμ1]; simp [zq_u1, zq_u3]
  have hwo : μ1.1 33 9 = nI wo := by rw [hμ1, zq_u1_o2 (by decide), zq_u1_s]
  have hld : μ1.1 33 10 = nI ld := by rw [hμ1, zq_u1_s]
  have hE1 : zEv 11 3 12 13 14 ne ek eh en μ1 := ⟨hE0.1, by rw [b0 11 (by decide)]; exact hE0.2.1, fun e he => by rw [b0 12 (by decide), b0 13 (by decide), b0 14 (by decide)]; exact hE0.2.2 e he⟩
  have hD1 : zD nd o1 o2 μ1 := ⟨hD0.1, by rw [b0 1 (by decide)]; exact hD0.2.1, fun e he => by rw [b0 3 (by decide)]; exact hD0.2.2.1 e he, fun e he => by rw [b0 4 (by decide)]; exact hD0.2.2.2 e he⟩
  refine zq_call zt_X7_runWith [.ref 33] [] (zs_lh33_11 hw hev hE1 hwo) rfl rfl ?_
  rintro _ μ2 ⟨rfl, f1, hh⟩
  have hz := zh_lt (wo := wo) (eh := eh) hE0.n
  refine zq_go zt_X7_runWith 1 [] 20 [(0, .ref 33), (1, .ref 11), (2, .int (nI wo)), (3, .int (nI ld))] [.ref 33] μ2 rfl trivial ?_
  refine zq_call zt_X7_runWith [.ref 33] [] (zs_lt33 (S := zSh ek eh en wo ne) hsp (hD1.fr f1 (by decide)) (fun i hi => ⟨(hh i hi).2, (hz (i + 1)).2⟩) (fun sp hsp9 => by rw [f1.a (b := 39) (by decide), f1.a (b := 38) (by decide), b0 39 (by decide), b0 38 (by decide)]; exact hK0 sp hsp9)) rfl rfl ?_
  rintro _ μ3 ⟨rfl, f2, hK3, ht3⟩
  have hW3 : zWk33 nd ld o1 o2 ek eh en wo ne μ3 := by
    refine ⟨by rw [f2.a (b := 33) (by decide), f1.a (b := 33) (by decide)]; exact hld, fun i hi => ⟨by rw [f2.a (b := 35) (by decide)]; exact (hh i hi).1, (hz (i + 1)).1⟩, fun i hi => ⟨(ht3 i hi).1, ?_⟩, fun i x t hi hx ht => ?_⟩
    · have := zsp_mono (zSh ek eh en wo ne) (a := i) (b := 23) (by omega)
      omega
    · have h9 := zsp_mono (zSh ek eh en wo ne) (a := i) (b := 23) (by omega)
      obtain ⟨q1, q2⟩ := ht3 i hi
      have h12 : zSh ek eh en wo ne i < 2 ^ 12 := (hz (i + 1)).2
      rcases hK3 (zsp (zSh ek eh en wo ne) i) (by omega) with q | ⟨mk, a1, a2, a3⟩
      · rw [q2] at q
        exact absurd q (zn_neg1 (by omega))
      · rw [q2, zn_eq (by omega) (by omega)] at a2
        subst a2
        exact a3 x t hx ht
  have fw : ∀ i, i ≠ 9 → i ≠ 10 → μ3.1 33 i = μ0.1 33 i := fun i a b => by rw [f2.a (b := 33) (by decide), f1.a (b := 33) (by decide)]; exact s0 i a b
  have hP3 : zP33 np srt stt bed μ3 := hP0.sl (by rw [f2.a (b := 6) (by decide), f1.a (b := 6) (by decide), b0 6 (by decide)]) (by rw [f2.a (b := 8) (by decide), f1.a (b := 8) (by decide), b0 8 (by decide)]) (by rw [f2.a (b := 9) (by decide), f1.a (b := 9) (by decide), b0 9 (by decide)]) (by rw [f2.a (b := 10) (by decide), f1.a (b := 10) (by decide), b0 10 (by decide)]) ⟨fw 11 (by decide) (by decide), fw 12 (by decide) (by decide), fw 13 (by decide) (by decide)⟩
  refine zq_go zt_X7_runWith 10 [] 41 [(0, .ref 33), (1, .ref 11), (2, .int (nI wo)), (3, .int (nI ld)), (4, .int (μ3.1 6 5)), (5, .int (-1)), (6, .int ((μ3.1 6 5) - (nI 1)))] [] μ3 rfl trivial ?_
  rw [hP3.2.1]
  rw [zdn_sub]
  refine zq_drp [0, 4, 5, 6] [(0, .ref 33), (4, .int (nI np)), (5, .int (zdn 0)), (6, .int (zdn np))] rfl (zs_rw33_a0 hl9 hE0.n hP3 hW3 (fun μ4 hI => ?_))
  refine zq_go zt_X7_runWith 2 [] 86 [(0, .ref 33), (4, .int (nI np)), (5, .int (zdn (zcx srt np))), (6, .int (nI 0))] [] μ4 rfl trivial ?_
  refine zs_rw33_b hl9 hE0.n (hP3.fr hI.1 (by decide)) (hW3.fr hI.1 (by decide)) (fun μ5 hJ => ?_) np 0 μ4 (by omega) ⟨zq_fr.rf, fun q h hq hd hh9 => hI.2 q h hq ⟨Nat.zero_le _, hd.resolve_right (Nat.not_lt_zero q)⟩ hh9⟩
  have f5 := hI.1.tr hJ.1
  exact zq_retn zt_X7_runWith rfl rfl ⟨rfl, ((f0.tr (f1.wk (by simp))).tr (f2.wk (by simp))).tr (f5.wk (by simp)), fun i a b => by rw [f5.a (b := 33) (by decide)]; exact fw i a b, hK3.fr f5 (by decide), hW3.fr f5 (by decide), fun p h hp h24 => hJ.2 p h hp (Or.inr hp) h24⟩
/-- what a week has laid before anybody goes -/
def zWk40 (nd ld : Nat) (o1 o2 ek eh en : Nat → Nat) (wo ne : Nat) (μ : zq_Me) : Prop := μ.1 40 10 = nI ld ∧ (∀ i, i < 24 → μ.1 42 i = zdn (zHm ek eh en wo ne i) ∧ zHm ek eh en wo ne i ≤ 8) ∧ (∀ i, i < 24 → μ.1 44 i = nI (zsp (zSh ek eh en wo ne) i * 64) ∧ zsp (zSh ek eh en wo ne) i ≤ 8) ∧ ∀ i x t, i < 24 → x < 8 → t < 8 → μ.1 45 (zsp (zSh ek eh en wo ne) i * 64 + x * 8 + t) = nI (zNx nd o1 o2 (zSh ek eh en wo ne) i t x)
theorem zWk40.fr {nd ld ne wo : Nat} {o1 o2 ek eh en : Nat → Nat} {μ μ1 : zq_Me} {S : List Nat} (h : zWk40 nd ld o1 o2 ek eh en wo ne μ) (hf : zq_fr S μ μ1) (hs : 40 ∉ S ∧ 42 ∉ S ∧ 44 ∉ S ∧ 45 ∉ S) : zWk40 nd ld o1 o2 ek eh en wo ne μ1 :=
  ⟨by rw [hf.a hs.1]; exact h.1, by rw [hf.a hs.2.1]; exact h.2.1, by rw [hf.a hs.2.2.1]; exact h.2.2.1, by rw [hf.a hs.2.2.2]; exact h.2.2.2⟩
set_option maxRecDepth 100000 in
set_option maxHeartbeats 4000000 in
theorem zs_rw40_a {Q : zq_Post} {nd np ne wo ld : Nat} {o1 o2 srt stt bed ek eh en : Nat → Nat} {μ0 : zq_Me} (hl9 : ld ≤ 9) (hn : zEn ne ek en) (hP0 : zP40 np srt stt bed μ0) (hW0 : zWk40 nd ld o1 o2 ek eh en wo ne μ0) (kk : ∀ μ : zq_Me, (zq_fr [41] μ0 μ ∧ ∀ q h, q < np → 0 ≤ q ∧ srt q ≠ 2 → h < 24 → μ.1 41 (h * 8 + q) = nI (zR (zNx nd o1 o2 (zSh ek eh en wo ne)) srt stt bed (zHm ek eh en wo ne) ld np q h)) → zq_Wp zn_X7_runWith 83 [(0, .ref 40), (4, .int (nI np)), (5, .int (zdn (zcx srt np)))] [] μ Q) : ∀ (n : Nat) (μ : zq_Me), n ≤ np → (zq_fr [41] μ0 μ ∧ ∀ q h, q < np → n ≤ q ∧ srt q ≠ 2 → h < 24 → μ.1 41 (h * 8 + q) = nI (zR (zNx nd o1 o2 (zSh ek eh en wo ne)) srt stt bed (zHm ek eh en wo ne) ld np q h)) → zq_Wp zn_X7_runWith 41 [(0, .ref 40), (4, .int (nI np)), (5, .int (zdn (zck srt np n))), (6, .int (zdn n))] [] μ Q := by
  intro n
  induction n with
  | zero =>
    intro μ hn8 hI
    refine zq_go zt_X7_runWith 2 [] (if (zdn 0) < 0 then 83 else 46) [(0, .ref 40), (4, .int (nI np)), (5, .int (zdn (zck srt np 0))), (6, .int (zdn 0))] [] μ rfl trivial ?_
    rw [if_pos (zdn_neg)]
    exact zq_drp [0, 4, 5] [(0, .ref 40), (4, .int (nI np)), (5, .int (zdn (zcx srt np)))] rfl (kk μ hI)
  | succ n ih =>
    intro μ hn8 hI
    have hP := hP0.fr hI.1 (by decide)
    have hW := hW0.fr hI.1 (by decide)
    have hn9 := hP.1
    have hq := hP.2.2 n (by omega)
    have hs2 := hq.2.1
    show zq_Wp zn_X7_runWith 41 [(0, .ref 40), (4, .int (nI np)), (5, .int (zdn (zck srt np (n + 1)))), (6, .int (nI n))] [] μ Q
    refine zq_go zt_X7_runWith 2 [] (if (nI n) < 0 then 83 else 46) [(0, .ref 40), (4, .int (nI np)), (5, .int (zdn (zck srt np (n + 1)))), (6, .int (nI n))] [] μ rfl trivial ?_
    rw [if_neg (zn_notneg (by omega))]
    have key : zq_Wp zn_X7_runWith 60 [(0, .ref 40), (4, .int (nI np)), (5, .int (zdn (zck srt np n))), (6, .int (nI n))] [] μ Q := by
      refine zq_go zt_X7_runWith 2 [] 63 [(0, .ref 40), (4, .int (nI np)), (5, .int (zdn (zck srt np n))), (6, .int (nI n))] [.int (nI n), .ref 40] μ rfl trivial ?_
      refine zq_call zt_X7_runWith [.ref 40, .int (nI n)] [] (zs_sortOf40 hP (show n < np by omega)) rfl rfl ?_
      rintro _ _ ⟨rfl, rfl⟩
      refine zq_go zt_X7_runWith 2 [] (if (nI (srt n)) = (nI 2) then 77 else 70) [(0, .ref 40), (4, .int (nI np)), (5, .int (zdn (zck srt np n))), (6, .int (nI n))] [] μ rfl trivial ?_
      refine zq_ite (fun h22 => ?_) (fun h22 => ?_)
      · have h2 : srt n = 2 := by
          rw [zn_eq (by omega) (by decide)] at h22
          omega
        refine zq_go zt_X7_runWith 2 [] 41 [(0, .ref 40), (4, .int (nI np)), (5, .int (zdn (zck srt np n))), (6, .int ((nI n) + (-1)))] [] μ rfl trivial ?_
        rw [zdn_dec]
        exact ih μ (by omega) ⟨hI.1, fun q h hq9 hd hh => hI.2 q h hq9 ⟨by have h7 := hd.1; have h8 : q ≠ n := (fun e => by rw [e] at hd; exact hd.2 h2); omega, hd.2⟩ hh⟩
      · have h2 : ¬ srt n = 2 := by
          rw [zn_eq (by omega) (by decide)] at h22
          exact h22
        refine zq_go zt_X7_runWith 3 [] 74 [(0, .ref 40), (4, .int (nI np)), (5, .int (zdn (zck srt np n))), (6, .int (nI n))] [.int (-1), .int (nI n), .ref 40] μ rfl trivial ?_
        refine zq_call zt_X7_runWith [.ref 40, .int (nI n), .int (-1)] [] (zs_walk40 (N := (zNx nd o1 o2 (zSh ek eh en wo ne))) (hm := (zHm ek eh en wo ne)) (tb := zsp (zSh ek eh en wo ne)) (hc := false) (cr := fun _ => 0) (cx := 0) hP (show n < np by omega) hl9 hW.1 hW.2.1 zHm_0 hW.2.2.1 hW.2.2.2 zNx_lt (fun _ _ => by decide) (by decide) rfl (fun c hc => absurd hc.symm (Nat.succ_ne_zero c))) rfl rfl ?_
        rintro _ μ1 ⟨rfl, g1, g2, g3⟩
        refine zq_go zt_X7_runWith 2 [] 41 [(0, .ref 40), (4, .int (nI np)), (5, .int (zdn (zck srt np n))), (6, .int ((nI n) + (-1)))] [] μ1 rfl trivial ?_
        rw [zdn_dec]
        refine ih μ1 (by omega) ⟨hI.1.tr g1, fun q h hq9 hd hh => ?_⟩
        by_cases h8 : q = n
        · subst h8; rw [g2 h hh, zR_ind h2 hs2]
        · rw [g3 _ (by omega)]; exact hI.2 q h hq9 ⟨by omega, hd.2⟩ hh
    refine zq_go zt_X7_runWith 2 [] 49 [(0, .ref 40), (4, .int (nI np)), (5, .int (zdn (zck srt np (n + 1)))), (6, .int (nI n))] [.int (nI n), .ref 40] μ rfl trivial ?_
    refine zq_call zt_X7_runWith [.ref 40, .int (nI n)] [] (zs_sortOf40 hP (show n < np by omega)) rfl rfl ?_
    rintro _ _ ⟨rfl, rfl⟩
    refine zq_go zt_X7_runWith 2 [] (if ¬ (nI (srt n)) = (nI 1) then 60 else 56) [(0, .ref 40), (4, .int (nI np)), (5, .int (zdn (zck srt np (n + 1)))), (6, .int (nI n))] [] μ rfl trivial ?_
    refine zq_ite (fun h45 => ?_) (fun h45 => ?_)
    · have h1 : ¬ srt n = 1 := by
        rw [zn_eq (by omega) (by decide)] at h45
        exact h45
      rw [zck_f h1] at key
      exact key
    · have h1 : srt n = 1 := by
        rw [zn_eq (by omega) (by decide)] at h45
        omega
      refine zq_go zt_X7_runWith 2 [] 60 [(0, .ref 40), (4, .int (nI np)), (5, .int (nI n)), (6, .int (nI n))] [] μ rfl trivial ?_
      rw [zck_t (by omega) h1] at key
      exact key
set_option maxRecDepth 100000 in
set_option maxHeartbeats 4000000 in
theorem zs_rw40_a0 {Q : zq_Post} {nd np ne wo ld : Nat} {o1 o2 srt stt bed ek eh en : Nat → Nat} {μ0 : zq_Me} (hl9 : ld ≤ 9) (hn : zEn ne ek en) (hP0 : zP40 np srt stt bed μ0) (hW0 : zWk40 nd ld o1 o2 ek eh en wo ne μ0) (kk : ∀ μ : zq_Me, (zq_fr [41] μ0 μ ∧ ∀ q h, q < np → 0 ≤ q ∧ srt q ≠ 2 → h < 24 → μ.1 41 (h * 8 + q) = nI (zR (zNx nd o1 o2 (zSh ek eh en wo ne)) srt stt bed (zHm ek eh en wo ne) ld np q h)) → zq_Wp zn_X7_runWith 83 [(0, .ref 40), (4, .int (nI np)), (5, .int (zdn (zcx srt np)))] [] μ Q) : zq_Wp zn_X7_runWith 41 [(0, .ref 40), (4, .int (nI np)), (5, .int (zdn 0)), (6, .int (zdn np))] [] μ0 Q := by
  have h9 := zs_rw40_a hl9 hn hP0 hW0 kk np μ0 (Nat.le_refl _) ⟨zq_fr.rf, fun q h hq hd _ => absurd hd.1 (by omega)⟩
  rw [zck_np] at h9
  exact h9
set_option maxRecDepth 100000 in
set_option maxHeartbeats 4000000 in
theorem zs_rw40_b {Q : zq_Post} {nd np ne wo ld : Nat} {o1 o2 srt stt bed ek eh en : Nat → Nat} {μ0 : zq_Me} (hl9 : ld ≤ 9) (hn : zEn ne ek en) (hP0 : zP40 np srt stt bed μ0) (hW0 : zWk40 nd ld o1 o2 ek eh en wo ne μ0) (kk : ∀ μ : zq_Me, (zq_fr [41] μ0 μ ∧ ∀ q h, q < np → (srt q ≠ 2 ∨ q < np) → h < 24 → μ.1 41 (h * 8 + q) = nI (zR (zNx nd o1 o2 (zSh ek eh en wo ne)) srt stt bed (zHm ek eh en wo ne) ld np q h)) → zq_Wp zn_X7_runWith 117 [] [] μ Q) : ∀ (j n : Nat) (μ : zq_Me), n + j = np → (zq_fr [41] μ0 μ ∧ ∀ q h, q < np → (srt q ≠ 2 ∨ q < n) → h < 24 → μ.1 41 (h * 8 + q) = nI (zR (zNx nd o1 o2 (zSh ek eh en wo ne)) srt stt bed (zHm ek eh en wo ne) ld np q h)) → zq_Wp zn_X7_runWith 86 [(0, .ref 40), (4, .int (nI np)), (5, .int (zdn (zcx srt np))), (6, .int (nI n))] [] μ Q := by
  intro j
  induction j with
  | zero =>
    intro n μ hij hI
    obtain rfl : n = np := by omega
    have hn9 := hP0.1
    refine zq_go zt_X7_runWith 3 [] (if (nI n) ≤ (nI n) then 117 else 93) [(0, .ref 40), (4, .int (nI n)), (5, .int (zdn (zcx srt n))), (6, .int (nI n))] [] μ rfl trivial ?_
    rw [if_pos (by rw [zn_le (by omega) (by omega)]; omega)]
    exact zq_drp [] [] rfl (kk μ hI)
  | succ j ih =>
    intro n μ hij hI
    have hP := hP0.fr hI.1 (by decide)
    have hW := hW0.fr hI.1 (by decide)
    have hn9 := hP.1
    have hq := hP.2.2 n (by omega)
    have hs2 := hq.2.1
    refine zq_go zt_X7_runWith 3 [] (if (nI np) ≤ (nI n) then 117 else 93) [(0, .ref 40), (4, .int (nI np)), (5, .int (zdn (zcx srt np))), (6, .int (nI n))] [] μ rfl trivial ?_
    rw [if_neg (by rw [zn_le (by omega) (by omega)]; omega)]
    refine zq_go zt_X7_runWith 2 [] 96 [(0, .ref 40), (4, .int (nI np)), (5, .int (zdn (zcx srt np))), (6, .int (nI n))] [.int (nI n), .ref 40] μ rfl trivial ?_
    refine zq_call zt_X7_runWith [.ref 40, .int (nI n)] [] (zs_sortOf40 hP (show n < np by omega)) rfl rfl ?_
    rintro _ _ ⟨rfl, rfl⟩
    refine zq_go zt_X7_runWith 2 [] (if ¬ (nI (srt n)) = (nI 2) then 111 else 103) [(0, .ref 40), (4, .int (nI np)), (5, .int (zdn (zcx srt np))), (6, .int (nI n))] [] μ rfl trivial ?_
    refine zq_ite (fun h22 => ?_) (fun h22 => ?_)
    · have h2 : ¬ srt n = 2 := by
        rw [zn_eq (by omega) (by decide)] at h22
        exact h22
      refine zq_go zt_X7_runWith 2 [] 86 [(0, .ref 40), (4, .int (nI np)), (5, .int (zdn (zcx srt np))), (6, .int ((nI n) + (nI 1)))] [] μ rfl trivial ?_
      rw [zn_add n 1]
      exact ih (n + 1) μ (by omega) ⟨hI.1, fun q h hq9 hd hh => hI.2 q h hq9 (hd.elim Or.inl (fun w => if h8 : q = n then Or.inl (by rw [h8]; exact h2) else Or.inr (by omega))) hh⟩
    · have h2 : srt n = 2 := by
        rw [zn_eq (by omega) (by decide)] at h22
        omega
      refine zq_go zt_X7_runWith 3 [] 108 [(0, .ref 40), (4, .int (nI np)), (5, .int (zdn (zcx srt np))), (6, .int (nI n))] [.int (zdn (zcx srt np)), .int (nI n), .ref 40] μ rfl trivial ?_
      have hcp : ∀ c, zcx srt np = c + 1 → c < 8 ∧ c ≠ n ∧ ∀ i, i < 24 → μ.1 41 (i * 8 + c) = nI (zcR (zNx nd o1 o2 (zSh ek eh en wo ne)) srt stt bed (zHm ek eh en wo ne) ld np i) := fun c hce => by
        obtain ⟨c1, c2⟩ := zcx_spec hce
        refine ⟨by omega, fun e => by rw [e] at c2; omega, fun i hi => ?_⟩
        rw [hI.2 c i c1 (Or.inl (by omega)) hi, zcR_c hce]
      refine zq_call zt_X7_runWith [.ref 40, .int (nI n), .int (zdn (zcx srt np))] [] (zs_walk40 (N := (zNx nd o1 o2 (zSh ek eh en wo ne))) (hm := (zHm ek eh en wo ne)) (tb := zsp (zSh ek eh en wo ne)) (hc := decide (¬ zcx srt np = 0)) (cr := zcR (zNx nd o1 o2 (zSh ek eh en wo ne)) srt stt bed (zHm ek eh en wo ne) ld np) (cx := zcx srt np) hP (show n < np by omega) hl9 hW.1 hW.2.1 zHm_0 hW.2.2.1 hW.2.2.2 zNx_lt (zcR_lt zNx_lt (fun p hp => ⟨(hP.2.2 p hp).2.1, (hP.2.2 p hp).2.2.2.1, (hP.2.2 p hp).2.2.2.2.2⟩) (fun i hi => (hW.2.1 i hi).2)) (by have := zck_le srt np 0; show zck srt np 0 ≤ 8; omega) rfl hcp) rfl rfl ?_
      rintro _ μ1 ⟨rfl, g1, g2, g3⟩
      refine zq_go zt_X7_runWith 2 [] 86 [(0, .ref 40), (4, .int (nI np)), (5, .int (zdn (zcx srt np))), (6, .int ((nI n) + (nI 1)))] [] μ1 rfl trivial ?_
      rw [zn_add n 1]
      refine ih (n + 1) μ1 (by omega) ⟨hI.1.tr g1, fun q h hq9 hd hh => ?_⟩
      by_cases h8 : q = n
      · subst h8; exact g2 h hh
      · rw [g3 _ (by omega)]; exact hI.2 q h hq9 (hd.imp id (fun w => by omega)) hh
set_option maxRecDepth 100000 in
set_option maxHeartbeats 4000000 in
theorem zs_rw40_11 {nd np ne wo ld : Nat} {o1 o2 srt stt bed ek eh en : Nat → Nat} {μ0 : zq_Me} (hl9 : ld ≤ 9) (hw : wo < 2 ^ 31) (hsp : zsp (zSh ek eh en wo ne) 23 ≤ 8) (hD0 : zD nd o1 o2 μ0) (hE0 : zEv 11 3 12 13 14 ne ek eh en μ0) (hP0 : zP40 np srt stt bed μ0) (hK0 : zK40 nd o1 o2 μ0) : zq_Wp zn_X7_runWith 0 [(0, .ref 40), (1, .ref 11), (2, .int (nI wo)), (3, .int (nI ld))] [] μ0 (fun r μ => r = none ∧ zq_fr [5, 40, 41, 42, 43, 44, 45, 46] μ0 μ ∧ (∀ i, i ≠ 9 → i ≠ 10 → μ.1 40 i = μ0.1 40 i) ∧ zK40 nd o1 o2 μ ∧ zWk40 nd ld o1 o2 ek eh en wo ne μ ∧ ∀ p h, p < np → h < 24 → μ.1 41 (h * 8 + p) = nI (zR (zNx nd o1 o2 (zSh ek eh en wo ne)) srt stt bed (zHm ek eh en wo ne) ld np p h)) := by
  refine zq_go zt_X7_runWith 10 [] 16 [(0, .ref 40), (1, .ref 11), (2, .int (nI wo)), (3, .int (nI ld))] [.ref 40] (zq_u1 (zq_u1 (zq_u3 μ0 40 8 11) 40 9 (nI wo)) 40 10 (nI ld)) rfl trivial ?_
  have f0 : zq_fr [5, 40, 41, 42, 43, 44, 45, 46] μ0 (zq_u1 (zq_u1 (zq_u3 μ0 40 8 11) 40 9 (nI wo)) 40 10 (nI ld)) := ((zq_fr.rf.u3 (by simp)).u1 (by simp)).u1 (by simp)
  obtain ⟨μ1, hμ1⟩ : ∃ k, k = zq_u1 (zq_u1 (zq_u3 μ0 40 8 11) 40 9 (nI wo)) 40 10 (nI ld) := ⟨_, rfl⟩
  rw [← hμ1]
  rw [← hμ1] at f0
  have s0 : ∀ i, i ≠ 9 → i ≠ 10 → μ1.1 40 i = μ0.1 40 i := fun i h9 h10 => by rw [hμ1, zq_u1_o2 h10, zq_u1_o2 h9]; rfl
  have b0 : ∀ b, b ≠ 40 → μ1.1 b = μ0.1 b := fun b hb => by rw [hμ1, zq_u1_ne hb, zq_u1_ne hb]; rfl
  have hev : μ1.2.2.1 40 8 = 11 := by rw [hμ1]; simp [zq_u1, zq_u3]
  have hwo : μ1.1 40 9 = nI wo := by rw [hμ1, zq_u1_o2 (by decide), zq_u1_s]
  have hld : μ1.1 40 10 = nI ld := by rw [hμ1, zq_u1_s]
  have hE1 : zEv 11 3 12 13 14 ne ek eh en μ1 := ⟨hE0.1, by rw [b0 11 (by decide)]; exact hE0.2.1, fun e he => by rw [b0 12 (by decide), b0 13 (by decide), b0 14 (by decide)]; exact hE0.2.2 e he⟩
  have hD1 : zD nd o1 o2 μ1 := ⟨hD0.1, by rw [b0 1 (by decide)]; exact hD0.2.1, fun e he => by rw [b0 3 (by decide)]; exact hD0.2.2.1 e he, fun e he => by rw [b0 4 (by decide)]; exact hD0.2.2.2 e he⟩
  refine zq_call zt_X7_runWith [.ref 40] [] (zs_lh40_11 hw hev hE1 hwo) rfl rfl ?_
  rintro _ μ2 ⟨rfl, f1, hh⟩
  have hz := zh_lt (wo := wo) (eh := eh) hE0.n
  refine zq_go zt_X7_runWith 1 [] 20 [(0, .ref 40), (1, .ref 11), (2, .int (nI wo)), (3, .int (nI ld))] [.ref 40] μ2 rfl trivial ?_
  refine zq_call zt_X7_runWith [.ref 40] [] (zs_lt40 (S := zSh ek eh en wo ne) hsp (hD1.fr f1 (by decide)) (fun i hi => ⟨(hh i hi).2, (hz (i + 1)).2⟩) (fun sp hsp9 => by rw [f1.a (b := 46) (by decide), f1.a (b := 45) (by decide), b0 46 (by decide), b0 45 (by decide)]; exact hK0 sp hsp9)) rfl rfl ?_
  rintro _ μ3 ⟨rfl, f2, hK3, ht3⟩
  have hW3 : zWk40 nd ld o1 o2 ek eh en wo ne μ3 := by
    refine ⟨by rw [f2.a (b := 40) (by decide), f1.a (b := 40) (by decide)]; exact hld, fun i hi => ⟨by rw [f2.a (b := 42) (by decide)]; exact (hh i hi).1, (hz (i + 1)).1⟩, fun i hi => ⟨(ht3 i hi).1, ?_⟩, fun i x t hi hx ht => ?_⟩
    · have := zsp_mono (zSh ek eh en wo ne) (a := i) (b := 23) (by omega)
      omega
    · have h9 := zsp_mono (zSh ek eh en wo ne) (a := i) (b := 23) (by omega)
      obtain ⟨q1, q2⟩ := ht3 i hi
      have h12 : zSh ek eh en wo ne i < 2 ^ 12 := (hz (i + 1)).2
      rcases hK3 (zsp (zSh ek eh en wo ne) i) (by omega) with q | ⟨mk, a1, a2, a3⟩
      · rw [q2] at q
        exact absurd q (zn_neg1 (by omega))
      · rw [q2, zn_eq (by omega) (by omega)] at a2
        subst a2
        exact a3 x t hx ht
  have fw : ∀ i, i ≠ 9 → i ≠ 10 → μ3.1 40 i = μ0.1 40 i := fun i a b => by rw [f2.a (b := 40) (by decide), f1.a (b := 40) (by decide)]; exact s0 i a b
  have hP3 : zP40 np srt stt bed μ3 := hP0.sl (by rw [f2.a (b := 6) (by decide), f1.a (b := 6) (by decide), b0 6 (by decide)]) (by rw [f2.a (b := 8) (by decide), f1.a (b := 8) (by decide), b0 8 (by decide)]) (by rw [f2.a (b := 9) (by decide), f1.a (b := 9) (by decide), b0 9 (by decide)]) (by rw [f2.a (b := 10) (by decide), f1.a (b := 10) (by decide), b0 10 (by decide)]) ⟨fw 11 (by decide) (by decide), fw 12 (by decide) (by decide), fw 13 (by decide) (by decide)⟩
  refine zq_go zt_X7_runWith 10 [] 41 [(0, .ref 40), (1, .ref 11), (2, .int (nI wo)), (3, .int (nI ld)), (4, .int (μ3.1 6 5)), (5, .int (-1)), (6, .int ((μ3.1 6 5) - (nI 1)))] [] μ3 rfl trivial ?_
  rw [hP3.2.1]
  rw [zdn_sub]
  refine zq_drp [0, 4, 5, 6] [(0, .ref 40), (4, .int (nI np)), (5, .int (zdn 0)), (6, .int (zdn np))] rfl (zs_rw40_a0 hl9 hE0.n hP3 hW3 (fun μ4 hI => ?_))
  refine zq_go zt_X7_runWith 2 [] 86 [(0, .ref 40), (4, .int (nI np)), (5, .int (zdn (zcx srt np))), (6, .int (nI 0))] [] μ4 rfl trivial ?_
  refine zs_rw40_b hl9 hE0.n (hP3.fr hI.1 (by decide)) (hW3.fr hI.1 (by decide)) (fun μ5 hJ => ?_) np 0 μ4 (by omega) ⟨zq_fr.rf, fun q h hq hd hh9 => hI.2 q h hq ⟨Nat.zero_le _, hd.resolve_right (Nat.not_lt_zero q)⟩ hh9⟩
  have f5 := hI.1.tr hJ.1
  exact zq_retn zt_X7_runWith rfl rfl ⟨rfl, ((f0.tr (f1.wk (by simp))).tr (f2.wk (by simp))).tr (f5.wk (by simp)), fun i a b => by rw [f5.a (b := 40) (by decide)]; exact fw i a b, hK3.fr f5 (by decide), hW3.fr f5 (by decide), fun p h hp h24 => hJ.2 p h hp (Or.inr hp) h24⟩
set_option maxRecDepth 100000 in
set_option maxHeartbeats 4000000 in
theorem zs_rw40_15 {nd np ne wo ld : Nat} {o1 o2 srt stt bed ek eh en : Nat → Nat} {μ0 : zq_Me} (hl9 : ld ≤ 9) (hw : wo < 2 ^ 31) (hsp : zsp (zSh ek eh en wo ne) 23 ≤ 8) (hD0 : zD nd o1 o2 μ0) (hE0 : zEv 15 3 16 17 18 ne ek eh en μ0) (hP0 : zP40 np srt stt bed μ0) (hK0 : zK40 nd o1 o2 μ0) : zq_Wp zn_X7_runWith 0 [(0, .ref 40), (1, .ref 15), (2, .int (nI wo)), (3, .int (nI ld))] [] μ0 (fun r μ => r = none ∧ zq_fr [5, 40, 41, 42, 43, 44, 45, 46] μ0 μ ∧ (∀ i, i ≠ 9 → i ≠ 10 → μ.1 40 i = μ0.1 40 i) ∧ zK40 nd o1 o2 μ ∧ zWk40 nd ld o1 o2 ek eh en wo ne μ ∧ ∀ p h, p < np → h < 24 → μ.1 41 (h * 8 + p) = nI (zR (zNx nd o1 o2 (zSh ek eh en wo ne)) srt stt bed (zHm ek eh en wo ne) ld np p h)) := by
  refine zq_go zt_X7_runWith 10 [] 16 [(0, .ref 40), (1, .ref 15), (2, .int (nI wo)), (3, .int (nI ld))] [.ref 40] (zq_u1 (zq_u1 (zq_u3 μ0 40 8 15) 40 9 (nI wo)) 40 10 (nI ld)) rfl trivial ?_
  have f0 : zq_fr [5, 40, 41, 42, 43, 44, 45, 46] μ0 (zq_u1 (zq_u1 (zq_u3 μ0 40 8 15) 40 9 (nI wo)) 40 10 (nI ld)) := ((zq_fr.rf.u3 (by simp)).u1 (by simp)).u1 (by simp)
  obtain ⟨μ1, hμ1⟩ : ∃ k, k = zq_u1 (zq_u1 (zq_u3 μ0 40 8 15) 40 9 (nI wo)) 40 10 (nI ld) := ⟨_, rfl⟩
  rw [← hμ1]
  rw [← hμ1] at f0
  have s0 : ∀ i, i ≠ 9 → i ≠ 10 → μ1.1 40 i = μ0.1 40 i := fun i h9 h10 => by rw [hμ1, zq_u1_o2 h10, zq_u1_o2 h9]; rfl
  have b0 : ∀ b, b ≠ 40 → μ1.1 b = μ0.1 b := fun b hb => by rw [hμ1, zq_u1_ne hb, zq_u1_ne hb]; rfl
  have hev : μ1.2.2.1 40 8 = 15 := by rw [hμ1]; simp [zq_u1, zq_u3]
  have hwo : μ1.1 40 9 = nI wo := by rw [hμ1, zq_u1_o2 (by decide), zq_u1_s]
  have hld : μ1.1 40 10 = nI ld := by rw [hμ1, zq_u1_s]
  have hE1 : zEv 15 3 16 17 18 ne ek eh en μ1 := ⟨hE0.1, by rw [b0 15 (by decide)]; exact hE0.2.1, fun e he => by rw [b0 16 (by decide), b0 17 (by decide), b0 18 (by decide)]; exact hE0.2.2 e he⟩
  have hD1 : zD nd o1 o2 μ1 := ⟨hD0.1, by rw [b0 1 (by decide)]; exact hD0.2.1, fun e he => by rw [b0 3 (by decide)]; exact hD0.2.2.1 e he, fun e he => by rw [b0 4 (by decide)]; exact hD0.2.2.2 e he⟩
  refine zq_call zt_X7_runWith [.ref 40] [] (zs_lh40_15 hw hev hE1 hwo) rfl rfl ?_
  rintro _ μ2 ⟨rfl, f1, hh⟩
  have hz := zh_lt (wo := wo) (eh := eh) hE0.n
  refine zq_go zt_X7_runWith 1 [] 20 [(0, .ref 40), (1, .ref 15), (2, .int (nI wo)), (3, .int (nI ld))] [.ref 40] μ2 rfl trivial ?_
  refine zq_call zt_X7_runWith [.ref 40] [] (zs_lt40 (S := zSh ek eh en wo ne) hsp (hD1.fr f1 (by decide)) (fun i hi => ⟨(hh i hi).2, (hz (i + 1)).2⟩) (fun sp hsp9 => by rw [f1.a (b := 46) (by decide), f1.a (b := 45) (by decide), b0 46 (by decide), b0 45 (by decide)]; exact hK0 sp hsp9)) rfl rfl ?_
  rintro _ μ3 ⟨rfl, f2, hK3, ht3⟩
  have hW3 : zWk40 nd ld o1 o2 ek eh en wo ne μ3 := by
    refine ⟨by rw [f2.a (b := 40) (by decide), f1.a (b := 40) (by decide)]; exact hld, fun i hi => ⟨by rw [f2.a (b := 42) (by decide)]; exact (hh i hi).1, (hz (i + 1)).1⟩, fun i hi => ⟨(ht3 i hi).1, ?_⟩, fun i x t hi hx ht => ?_⟩
    · have := zsp_mono (zSh ek eh en wo ne) (a := i) (b := 23) (by omega)
      omega
    · have h9 := zsp_mono (zSh ek eh en wo ne) (a := i) (b := 23) (by omega)
      obtain ⟨q1, q2⟩ := ht3 i hi
      have h12 : zSh ek eh en wo ne i < 2 ^ 12 := (hz (i + 1)).2
      rcases hK3 (zsp (zSh ek eh en wo ne) i) (by omega) with q | ⟨mk, a1, a2, a3⟩
      · rw [q2] at q
        exact absurd q (zn_neg1 (by omega))
      · rw [q2, zn_eq (by omega) (by omega)] at a2
        subst a2
        exact a3 x t hx ht
  have fw : ∀ i, i ≠ 9 → i ≠ 10 → μ3.1 40 i = μ0.1 40 i := fun i a b => by rw [f2.a (b := 40) (by decide), f1.a (b := 40) (by decide)]; exact s0 i a b
  have hP3 : zP40 np srt stt bed μ3 := hP0.sl (by rw [f2.a (b := 6) (by decide), f1.a (b := 6) (by decide), b0 6 (by decide)]) (by rw [f2.a (b := 8) (by decide), f1.a (b := 8) (by decide), b0 8 (by decide)]) (by rw [f2.a (b := 9) (by decide), f1.a (b := 9) (by decide), b0 9 (by decide)]) (by rw [f2.a (b := 10) (by decide), f1.a (b := 10) (by decide), b0 10 (by decide)]) ⟨fw 11 (by decide) (by decide), fw 12 (by decide) (by decide), fw 13 (by decide) (by decide)⟩
  refine zq_go zt_X7_runWith 10 [] 41 [(0, .ref 40), (1, .ref 15), (2, .int (nI wo)), (3, .int (nI ld)), (4, .int (μ3.1 6 5)), (5, .int (-1)), (6, .int ((μ3.1 6 5) - (nI 1)))] [] μ3 rfl trivial ?_
  rw [hP3.2.1]
  rw [zdn_sub]
  refine zq_drp [0, 4, 5, 6] [(0, .ref 40), (4, .int (nI np)), (5, .int (zdn 0)), (6, .int (zdn np))] rfl (zs_rw40_a0 hl9 hE0.n hP3 hW3 (fun μ4 hI => ?_))
  refine zq_go zt_X7_runWith 2 [] 86 [(0, .ref 40), (4, .int (nI np)), (5, .int (zdn (zcx srt np))), (6, .int (nI 0))] [] μ4 rfl trivial ?_
  refine zs_rw40_b hl9 hE0.n (hP3.fr hI.1 (by decide)) (hW3.fr hI.1 (by decide)) (fun μ5 hJ => ?_) np 0 μ4 (by omega) ⟨zq_fr.rf, fun q h hq hd hh9 => hI.2 q h hq ⟨Nat.zero_le _, hd.resolve_right (Nat.not_lt_zero q)⟩ hh9⟩
  have f5 := hI.1.tr hJ.1
  exact zq_retn zt_X7_runWith rfl rfl ⟨rfl, ((f0.tr (f1.wk (by simp))).tr (f2.wk (by simp))).tr (f5.wk (by simp)), fun i a b => by rw [f5.a (b := 40) (by decide)]; exact fw i a b, hK3.fr f5 (by decide), hW3.fr f5 (by decide), fun p h hp h24 => hJ.2 p h hp (Or.inr hp) h24⟩
