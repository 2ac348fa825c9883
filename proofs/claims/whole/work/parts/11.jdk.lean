/-! ===== frames; the JDK's own ===== -/
def zq_fr (S : List Nat) (μ μ' : zq_Me) : Prop := (∀ b, b ∉ S → μ'.1 b = μ.1 b ∧ μ'.2.1 b = μ.2.1 b ∧ μ'.2.2.1 b = μ.2.2.1 b) ∧ μ'.2.2.2 = μ.2.2.2
theorem zq_fr.rf {S : List Nat} {μ : zq_Me} : zq_fr S μ μ := ⟨fun _ _ => ⟨rfl, rfl, rfl⟩, rfl⟩
theorem zq_fr.tr {S : List Nat} {μ μ1 μ2 : zq_Me} (h : zq_fr S μ μ1) (h2 : zq_fr S μ1 μ2) : zq_fr S μ μ2 :=
  ⟨fun b hb => ⟨(h2.1 b hb).1.trans (h.1 b hb).1, (h2.1 b hb).2.1.trans (h.1 b hb).2.1, (h2.1 b hb).2.2.trans (h.1 b hb).2.2⟩, h2.2.trans h.2⟩
theorem zq_fr.wk {S T : List Nat} {μ μ1 : zq_Me} (h : zq_fr S μ μ1) (hs : ∀ b, b ∈ S → b ∈ T) : zq_fr T μ μ1 := ⟨fun b hb => h.1 b (fun q => hb (hs b q)), h.2⟩
theorem zq_fr.u1 {S : List Nat} {μ μ1 : zq_Me} {a i : Nat} {x : Int32} (h : zq_fr S μ μ1) (ha : a ∈ S) : zq_fr S μ (zq_u1 μ1 a i x) :=
  h.tr ⟨fun b hb => ⟨zq_u1_ne (fun q => hb (q ▸ ha)), rfl, rfl⟩, rfl⟩
theorem zq_fr.u2 {S : List Nat} {μ μ1 : zq_Me} {a i : Nat} {x : Int64} (h : zq_fr S μ μ1) (ha : a ∈ S) : zq_fr S μ (zq_u2 μ1 a i x) :=
  h.tr ⟨fun b hb => ⟨rfl, if_neg (fun q : b = a => hb (q ▸ ha)), rfl⟩, rfl⟩
theorem zq_fr.u3 {S : List Nat} {μ μ1 : zq_Me} {a i n : Nat} (h : zq_fr S μ μ1) (ha : a ∈ S) : zq_fr S μ (zq_u3 μ1 a i n) :=
  h.tr ⟨fun b hb => ⟨rfl, rfl, if_neg (fun q : b = a => hb (q ▸ ha))⟩, rfl⟩
theorem zq_fr.ur {S : List Nat} {μ μ1 : zq_Me} {a : Nat} {f : Nat → Int32} (h : zq_fr S μ μ1) (ha : a ∈ S) : zq_fr S μ (zq_ur μ1 a f) :=
  h.tr ⟨fun b hb => ⟨if_neg (fun q : b = a => hb (q ▸ ha)), rfl, rfl⟩, rfl⟩
theorem zq_fr.a {S : List Nat} {μ μ1 : zq_Me} (h : zq_fr S μ μ1) {b : Nat} (hb : b ∉ S) : μ1.1 b = μ.1 b := (h.1 b hb).1
theorem zq_fr.r {S : List Nat} {μ μ1 : zq_Me} (h : zq_fr S μ μ1) {b : Nat} (hb : b ∉ S) : μ1.2.2.1 b = μ.2.2.1 b := (h.1 b hb).2.2
theorem zq_fr.l {S : List Nat} {μ μ1 : zq_Me} (h : zq_fr S μ μ1) {b : Nat} (hb : b ∉ S) : μ1.2.1 b = μ.2.1 b := (h.1 b hb).2.1
theorem zq_u1_rd {μ : zq_Me} {a i j : Nat} {x : Int32} : (zq_u1 μ a i x).1 a j = if j = i then x else μ.1 a j := by rw [zq_u1_eq]; rfl
theorem zq_u1_s {μ : zq_Me} {a i : Nat} {x : Int32} : (zq_u1 μ a i x).1 a i = x := by rw [zq_u1_rd, if_pos rfl]
theorem zq_u1_o2 {μ : zq_Me} {a i j : Nat} {x : Int32} (h : j ≠ i) : (zq_u1 μ a i x).1 a j = μ.1 a j := by rw [zq_u1_rd, if_neg h]
theorem zq_u2_rd {μ : zq_Me} {a i j : Nat} {x : Int64} : (zq_u2 μ a i x).2.1 a j = if j = i then x else μ.2.1 a j := by show (if a = a then vp_updL (μ.2.1 a) i x else _) j = _; rw [if_pos rfl]; rfl
set_option maxRecDepth 100000 in
set_option maxHeartbeats 4000000 in
theorem zs_fill5_l {Q : zq_Post} (v : Int32) (μ0 : zq_Me) (kk : ∀ μ : zq_Me, (zq_fr [5] μ0 μ ∧ ∀ j, j < 8 → μ.1 5 j = v) → zq_Wp zn_J7_fill_53178 20 [] [] μ Q) : ∀ (j i : Nat) (μ : zq_Me), i + j = 8 → ((zq_fr [5] μ0 μ ∧ ∀ j, j < i → μ.1 5 j = v)) → zq_Wp zn_J7_fill_53178 5 [(0, .ref 5), (1, .int v), (2, .int (nI i)), (3, .int (nI 8))] [] μ Q := by
  intro j
  induction j with
  | zero =>
    intro i μ hij hI
    obtain rfl : i = 8 := by omega
    refine zq_go zt_J7_fill_53178 3 [] (if (nI 8) ≤ (nI 8) then 20 else 10) [(0, .ref 5), (1, .int v), (2, .int (nI 8)), (3, .int (nI 8))] [] μ rfl trivial ?_
    rw [if_pos (by rw [zn_le (by omega) (by omega)]; omega)]
    exact zq_drp [] [] rfl (kk μ hI)
  | succ j ih =>
    intro i μ hij hI
    refine zq_go zt_J7_fill_53178 3 [] (if (nI 8) ≤ (nI i) then 20 else 10) [(0, .ref 5), (1, .int v), (2, .int (nI i)), (3, .int (nI 8))] [] μ rfl trivial ?_
    rw [if_neg (by rw [zn_le (by omega) (by omega)]; omega)]
    refine zq_go zt_J7_fill_53178 6 [vp_in (nI i) 8] 5 [(0, .ref 5), (1, .int v), (2, .int ((nI i) + (nI 1))), (3, .int (nI 8))] [] (zq_u1 μ 5 ((nI i).toNatClampNeg) v) rfl ⟨zn_in (k := i) rfl (by omega) (by decide), trivial⟩ ?_
    rw [zn_add i 1, zn_cl (n := i) (by omega)]
    exact ih (i + 1) _ (by omega) ⟨hI.1.u1 (by simp), fun q hq => by rw [zq_u1_rd]; split; rfl; exact hI.2 q (by omega)⟩
set_option maxRecDepth 100000 in
set_option maxHeartbeats 4000000 in
theorem zs_fill5 (v : Int32) (μ : zq_Me) : zq_Wp zn_J7_fill_53178 0 [(0, .ref 5), (1, .int v)] [] μ (fun r μ' => r = none ∧ zq_fr [5] μ μ' ∧ ∀ j, j < 8 → μ'.1 5 j = v) := by
  refine zq_go zt_J7_fill_53178 5 [] 5 [(0, .ref 5), (1, .int v), (2, .int (nI 0)), (3, .int (nI 8))] [] μ rfl trivial ?_
  refine zs_fill5_l v μ (fun μ1 hI => ?_) 8 0 μ (by omega) ⟨zq_fr.rf, fun j hj => absurd hj (Nat.not_lt_zero j)⟩
  exact zq_retn zt_J7_fill_53178 rfl rfl (⟨rfl, hI⟩)
set_option maxRecDepth 100000 in
set_option maxHeartbeats 4000000 in
theorem zs_fill39_l {Q : zq_Post} (v : Int32) (μ0 : zq_Me) (kk : ∀ μ : zq_Me, (zq_fr [39] μ0 μ ∧ ∀ j, j < 9 → μ.1 39 j = v) → zq_Wp zn_J7_fill_53178 20 [] [] μ Q) : ∀ (j i : Nat) (μ : zq_Me), i + j = 9 → ((zq_fr [39] μ0 μ ∧ ∀ j, j < i → μ.1 39 j = v)) → zq_Wp zn_J7_fill_53178 5 [(0, .ref 39), (1, .int v), (2, .int (nI i)), (3, .int (nI 9))] [] μ Q := by
  intro j
  induction j with
  | zero =>
    intro i μ hij hI
    obtain rfl : i = 9 := by omega
    refine zq_go zt_J7_fill_53178 3 [] (if (nI 9) ≤ (nI 9) then 20 else 10) [(0, .ref 39), (1, .int v), (2, .int (nI 9)), (3, .int (nI 9))] [] μ rfl trivial ?_
    rw [if_pos (by rw [zn_le (by omega) (by omega)]; omega)]
    exact zq_drp [] [] rfl (kk μ hI)
  | succ j ih =>
    intro i μ hij hI
    refine zq_go zt_J7_fill_53178 3 [] (if (nI 9) ≤ (nI i) then 20 else 10) [(0, .ref 39), (1, .int v), (2, .int (nI i)), (3, .int (nI 9))] [] μ rfl trivial ?_
    rw [if_neg (by rw [zn_le (by omega) (by omega)]; omega)]
    refine zq_go zt_J7_fill_53178 6 [vp_in (nI i) 9] 5 [(0, .ref 39), (1, .int v), (2, .int ((nI i) + (nI 1))), (3, .int (nI 9))] [] (zq_u1 μ 39 ((nI i).toNatClampNeg) v) rfl ⟨zn_in (k := i) rfl (by omega) (by decide), trivial⟩ ?_
    rw [zn_add i 1, zn_cl (n := i) (by omega)]
    exact ih (i + 1) _ (by omega) ⟨hI.1.u1 (by simp), fun q hq => by rw [zq_u1_rd]; split; rfl; exact hI.2 q (by omega)⟩
set_option maxRecDepth 100000 in
set_option maxHeartbeats 4000000 in
theorem zs_fill39 (v : Int32) (μ : zq_Me) : zq_Wp zn_J7_fill_53178 0 [(0, .ref 39), (1, .int v)] [] μ (fun r μ' => r = none ∧ zq_fr [39] μ μ' ∧ ∀ j, j < 9 → μ'.1 39 j = v) := by
  refine zq_go zt_J7_fill_53178 5 [] 5 [(0, .ref 39), (1, .int v), (2, .int (nI 0)), (3, .int (nI 9))] [] μ rfl trivial ?_
  refine zs_fill39_l v μ (fun μ1 hI => ?_) 9 0 μ (by omega) ⟨zq_fr.rf, fun j hj => absurd hj (Nat.not_lt_zero j)⟩
  exact zq_retn zt_J7_fill_53178 rfl rfl (⟨rfl, hI⟩)
set_option maxRecDepth 100000 in
set_option maxHeartbeats 4000000 in
theorem zs_fill46_l {Q : zq_Post} (v : Int32) (μ0 : zq_Me) (kk : ∀ μ : zq_Me, (zq_fr [46] μ0 μ ∧ ∀ j, j < 9 → μ.1 46 j = v) → zq_Wp zn_J7_fill_53178 20 [] [] μ Q) : ∀ (j i : Nat) (μ : zq_Me), i + j = 9 → ((zq_fr [46] μ0 μ ∧ ∀ j, j < i → μ.1 46 j = v)) → zq_Wp zn_J7_fill_53178 5 [(0, .ref 46), (1, .int v), (2, .int (nI i)), (3, .int (nI 9))] [] μ Q := by
  intro j
  induction j with
  | zero =>
    intro i μ hij hI
    obtain rfl : i = 9 := by omega
    refine zq_go zt_J7_fill_53178 3 [] (if (nI 9) ≤ (nI 9) then 20 else 10) [(0, .ref 46), (1, .int v), (2, .int (nI 9)), (3, .int (nI 9))] [] μ rfl trivial ?_
    rw [if_pos (by rw [zn_le (by omega) (by omega)]; omega)]
    exact zq_drp [] [] rfl (kk μ hI)
  | succ j ih =>
    intro i μ hij hI
    refine zq_go zt_J7_fill_53178 3 [] (if (nI 9) ≤ (nI i) then 20 else 10) [(0, .ref 46), (1, .int v), (2, .int (nI i)), (3, .int (nI 9))] [] μ rfl trivial ?_
    rw [if_neg (by rw [zn_le (by omega) (by omega)]; omega)]
    refine zq_go zt_J7_fill_53178 6 [vp_in (nI i) 9] 5 [(0, .ref 46), (1, .int v), (2, .int ((nI i) + (nI 1))), (3, .int (nI 9))] [] (zq_u1 μ 46 ((nI i).toNatClampNeg) v) rfl ⟨zn_in (k := i) rfl (by omega) (by decide), trivial⟩ ?_
    rw [zn_add i 1, zn_cl (n := i) (by omega)]
    exact ih (i + 1) _ (by omega) ⟨hI.1.u1 (by simp), fun q hq => by rw [zq_u1_rd]; split; rfl; exact hI.2 q (by omega)⟩
set_option maxRecDepth 100000 in
set_option maxHeartbeats 4000000 in
theorem zs_fill46 (v : Int32) (μ : zq_Me) : zq_Wp zn_J7_fill_53178 0 [(0, .ref 46), (1, .int v)] [] μ (fun r μ' => r = none ∧ zq_fr [46] μ μ' ∧ ∀ j, j < 9 → μ'.1 46 j = v) := by
  refine zq_go zt_J7_fill_53178 5 [] 5 [(0, .ref 46), (1, .int v), (2, .int (nI 0)), (3, .int (nI 9))] [] μ rfl trivial ?_
  refine zs_fill46_l v μ (fun μ1 hI => ?_) 9 0 μ (by omega) ⟨zq_fr.rf, fun j hj => absurd hj (Nat.not_lt_zero j)⟩
  exact zq_retn zt_J7_fill_53178 rfl rfl (⟨rfl, hI⟩)
set_option maxRecDepth 100000 in
set_option maxHeartbeats 4000000 in
theorem zs_fill26_l {Q : zq_Post} (v : Int32) (μ0 : zq_Me) (kk : ∀ μ : zq_Me, (zq_fr [26] μ0 μ ∧ ∀ j, j < 60 → μ.1 26 j = v) → zq_Wp zn_J7_fill_53178 20 [] [] μ Q) : ∀ (j i : Nat) (μ : zq_Me), i + j = 60 → ((zq_fr [26] μ0 μ ∧ ∀ j, j < i → μ.1 26 j = v)) → zq_Wp zn_J7_fill_53178 5 [(0, .ref 26), (1, .int v), (2, .int (nI i)), (3, .int (nI 60))] [] μ Q := by
  intro j
  induction j with
  | zero =>
    intro i μ hij hI
    obtain rfl : i = 60 := by omega
    refine zq_go zt_J7_fill_53178 3 [] (if (nI 60) ≤ (nI 60) then 20 else 10) [(0, .ref 26), (1, .int v), (2, .int (nI 60)), (3, .int (nI 60))] [] μ rfl trivial ?_
    rw [if_pos (by rw [zn_le (by omega) (by omega)]; omega)]
    exact zq_drp [] [] rfl (kk μ hI)
  | succ j ih =>
    intro i μ hij hI
    refine zq_go zt_J7_fill_53178 3 [] (if (nI 60) ≤ (nI i) then 20 else 10) [(0, .ref 26), (1, .int v), (2, .int (nI i)), (3, .int (nI 60))] [] μ rfl trivial ?_
    rw [if_neg (by rw [zn_le (by omega) (by omega)]; omega)]
    refine zq_go zt_J7_fill_53178 6 [vp_in (nI i) 60] 5 [(0, .ref 26), (1, .int v), (2, .int ((nI i) + (nI 1))), (3, .int (nI 60))] [] (zq_u1 μ 26 ((nI i).toNatClampNeg) v) rfl ⟨zn_in (k := i) rfl (by omega) (by decide), trivial⟩ ?_
    rw [zn_add i 1, zn_cl (n := i) (by omega)]
    exact ih (i + 1) _ (by omega) ⟨hI.1.u1 (by simp), fun q hq => by rw [zq_u1_rd]; split; rfl; exact hI.2 q (by omega)⟩
set_option maxRecDepth 100000 in
set_option maxHeartbeats 4000000 in
theorem zs_fill26 (v : Int32) (μ : zq_Me) : zq_Wp zn_J7_fill_53178 0 [(0, .ref 26), (1, .int v)] [] μ (fun r μ' => r = none ∧ zq_fr [26] μ μ' ∧ ∀ j, j < 60 → μ'.1 26 j = v) := by
  refine zq_go zt_J7_fill_53178 5 [] 5 [(0, .ref 26), (1, .int v), (2, .int (nI 0)), (3, .int (nI 60))] [] μ rfl trivial ?_
  refine zs_fill26_l v μ (fun μ1 hI => ?_) 60 0 μ (by omega) ⟨zq_fr.rf, fun j hj => absurd hj (Nat.not_lt_zero j)⟩
  exact zq_retn zt_J7_fill_53178 rfl rfl (⟨rfl, hI⟩)
set_option maxRecDepth 100000 in
set_option maxHeartbeats 4000000 in
theorem zs_fill28_l {Q : zq_Post} (v : Int32) (μ0 : zq_Me) (kk : ∀ μ : zq_Me, (zq_fr [28] μ0 μ ∧ ∀ j, j < 60 → μ.1 28 j = v) → zq_Wp zn_J7_fill_53178 20 [] [] μ Q) : ∀ (j i : Nat) (μ : zq_Me), i + j = 60 → ((zq_fr [28] μ0 μ ∧ ∀ j, j < i → μ.1 28 j = v)) → zq_Wp zn_J7_fill_53178 5 [(0, .ref 28), (1, .int v), (2, .int (nI i)), (3, .int (nI 60))] [] μ Q := by
  intro j
  induction j with
  | zero =>
    intro i μ hij hI
    obtain rfl : i = 60 := by omega
    refine zq_go zt_J7_fill_53178 3 [] (if (nI 60) ≤ (nI 60) then 20 else 10) [(0, .ref 28), (1, .int v), (2, .int (nI 60)), (3, .int (nI 60))] [] μ rfl trivial ?_
    rw [if_pos (by rw [zn_le (by omega) (by omega)]; omega)]
    exact zq_drp [] [] rfl (kk μ hI)
  | succ j ih =>
    intro i μ hij hI
    refine zq_go zt_J7_fill_53178 3 [] (if (nI 60) ≤ (nI i) then 20 else 10) [(0, .ref 28), (1, .int v), (2, .int (nI i)), (3, .int (nI 60))] [] μ rfl trivial ?_
    rw [if_neg (by rw [zn_le (by omega) (by omega)]; omega)]
    refine zq_go zt_J7_fill_53178 6 [vp_in (nI i) 60] 5 [(0, .ref 28), (1, .int v), (2, .int ((nI i) + (nI 1))), (3, .int (nI 60))] [] (zq_u1 μ 28 ((nI i).toNatClampNeg) v) rfl ⟨zn_in (k := i) rfl (by omega) (by decide), trivial⟩ ?_
    rw [zn_add i 1, zn_cl (n := i) (by omega)]
    exact ih (i + 1) _ (by omega) ⟨hI.1.u1 (by simp), fun q hq => by rw [zq_u1_rd]; split; rfl; exact hI.2 q (by omega)⟩
set_option maxRecDepth 100000 in
set_option maxHeartbeats 4000000 in
theorem zs_fill28 (v : Int32) (μ : zq_Me) : zq_Wp zn_J7_fill_53178 0 [(0, .ref 28), (1, .int v)] [] μ (fun r μ' => r = none ∧ zq_fr [28] μ μ' ∧ ∀ j, j < 60 → μ'.1 28 j = v) := by
  refine zq_go zt_J7_fill_53178 5 [] 5 [(0, .ref 28), (1, .int v), (2, .int (nI 0)), (3, .int (nI 60))] [] μ rfl trivial ?_
  refine zs_fill28_l v μ (fun μ1 hI => ?_) 60 0 μ (by omega) ⟨zq_fr.rf, fun j hj => absurd hj (Nat.not_lt_zero j)⟩
  exact zq_retn zt_J7_fill_53178 rfl rfl (⟨rfl, hI⟩)
set_option maxRecDepth 100000 in
set_option maxHeartbeats 4000000 in
theorem zs_fill30_l {Q : zq_Post} (v : Int32) (μ0 : zq_Me) (kk : ∀ μ : zq_Me, (zq_fr [30] μ0 μ ∧ ∀ j, j < 60 → μ.1 30 j = v) → zq_Wp zn_J7_fill_53178 20 [] [] μ Q) : ∀ (j i : Nat) (μ : zq_Me), i + j = 60 → ((zq_fr [30] μ0 μ ∧ ∀ j, j < i → μ.1 30 j = v)) → zq_Wp zn_J7_fill_53178 5 [(0, .ref 30), (1, .int v), (2, .int (nI i)), (3, .int (nI 60))] [] μ Q := by
  intro j
  induction j with
  | zero =>
    intro i μ hij hI
    obtain rfl : i = 60 := by omega
    refine zq_go zt_J7_fill_53178 3 [] (if (nI 60) ≤ (nI 60) then 20 else 10) [(0, .ref 30), (1, .int v), (2, .int (nI 60)), (3, .int (nI 60))] [] μ rfl trivial ?_
    rw [if_pos (by rw [zn_le (by omega) (by omega)]; omega)]
    exact zq_drp [] [] rfl (kk μ hI)
  | succ j ih =>
    intro i μ hij hI
    refine zq_go zt_J7_fill_53178 3 [] (if (nI 60) ≤ (nI i) then 20 else 10) [(0, .ref 30), (1, .int v), (2, .int (nI i)), (3, .int (nI 60))] [] μ rfl trivial ?_
    rw [if_neg (by rw [zn_le (by omega) (by omega)]; omega)]
    refine zq_go zt_J7_fill_53178 6 [vp_in (nI i) 60] 5 [(0, .ref 30), (1, .int v), (2, .int ((nI i) + (nI 1))), (3, .int (nI 60))] [] (zq_u1 μ 30 ((nI i).toNatClampNeg) v) rfl ⟨zn_in (k := i) rfl (by omega) (by decide), trivial⟩ ?_
    rw [zn_add i 1, zn_cl (n := i) (by omega)]
    exact ih (i + 1) _ (by omega) ⟨hI.1.u1 (by simp), fun q hq => by rw [zq_u1_rd]; split; rfl; exact hI.2 q (by omega)⟩
set_option maxRecDepth 100000 in
set_option maxHeartbeats 4000000 in
theorem zs_fill30 (v : Int32) (μ : zq_Me) : zq_Wp zn_J7_fill_53178 0 [(0, .ref 30), (1, .int v)] [] μ (fun r μ' => r = none ∧ zq_fr [30] μ μ' ∧ ∀ j, j < 60 → μ'.1 30 j = v) := by
  refine zq_go zt_J7_fill_53178 5 [] 5 [(0, .ref 30), (1, .int v), (2, .int (nI 0)), (3, .int (nI 60))] [] μ rfl trivial ?_
  refine zs_fill30_l v μ (fun μ1 hI => ?_) 60 0 μ (by omega) ⟨zq_fr.rf, fun j hj => absurd hj (Nat.not_lt_zero j)⟩
  exact zq_retn zt_J7_fill_53178 rfl rfl (⟨rfl, hI⟩)
set_option maxRecDepth 100000 in
set_option maxHeartbeats 4000000 in
theorem zs_fill32_l {Q : zq_Post} (v : Int32) (μ0 : zq_Me) (kk : ∀ μ : zq_Me, (zq_fr [32] μ0 μ ∧ ∀ j, j < 60 → μ.1 32 j = v) → zq_Wp zn_J7_fill_53178 20 [] [] μ Q) : ∀ (j i : Nat) (μ : zq_Me), i + j = 60 → ((zq_fr [32] μ0 μ ∧ ∀ j, j < i → μ.1 32 j = v)) → zq_Wp zn_J7_fill_53178 5 [(0, .ref 32), (1, .int v), (2, .int (nI i)), (3, .int (nI 60))] [] μ Q := by
  intro j
  induction j with
  | zero =>
    intro i μ hij hI
    obtain rfl : i = 60 := by omega
    refine zq_go zt_J7_fill_53178 3 [] (if (nI 60) ≤ (nI 60) then 20 else 10) [(0, .ref 32), (1, .int v), (2, .int (nI 60)), (3, .int (nI 60))] [] μ rfl trivial ?_
    rw [if_pos (by rw [zn_le (by omega) (by omega)]; omega)]
    exact zq_drp [] [] rfl (kk μ hI)
  | succ j ih =>
    intro i μ hij hI
    refine zq_go zt_J7_fill_53178 3 [] (if (nI 60) ≤ (nI i) then 20 else 10) [(0, .ref 32), (1, .int v), (2, .int (nI i)), (3, .int (nI 60))] [] μ rfl trivial ?_
    rw [if_neg (by rw [zn_le (by omega) (by omega)]; omega)]
    refine zq_go zt_J7_fill_53178 6 [vp_in (nI i) 60] 5 [(0, .ref 32), (1, .int v), (2, .int ((nI i) + (nI 1))), (3, .int (nI 60))] [] (zq_u1 μ 32 ((nI i).toNatClampNeg) v) rfl ⟨zn_in (k := i) rfl (by omega) (by decide), trivial⟩ ?_
    rw [zn_add i 1, zn_cl (n := i) (by omega)]
    exact ih (i + 1) _ (by omega) ⟨hI.1.u1 (by simp), fun q hq => by rw [zq_u1_rd]; split; rfl; exact hI.2 q (by omega)⟩
set_option maxRecDepth 100000 in
set_option maxHeartbeats 4000000 in
theorem zs_fill32 (v : Int32) (μ : zq_Me) : zq_Wp zn_J7_fill_53178 0 [(0, .ref 32), (1, .int v)] [] μ (fun r μ' => r = none ∧ zq_fr [32] μ μ' ∧ ∀ j, j < 60 → μ'.1 32 j = v) := by
  refine zq_go zt_J7_fill_53178 5 [] 5 [(0, .ref 32), (1, .int v), (2, .int (nI 0)), (3, .int (nI 60))] [] μ rfl trivial ?_
  refine zs_fill32_l v μ (fun μ1 hI => ?_) 60 0 μ (by omega) ⟨zq_fr.rf, fun j hj => absurd hj (Nat.not_lt_zero j)⟩
  exact zq_retn zt_J7_fill_53178 rfl rfl (⟨rfl, hI⟩)
set_option maxRecDepth 100000 in
set_option maxHeartbeats 4000000 in
theorem zs_fill48_l {Q : zq_Post} (v : Int32) (μ0 : zq_Me) (kk : ∀ μ : zq_Me, (zq_fr [48] μ0 μ ∧ ∀ j, j < 8 → μ.1 48 j = v) → zq_Wp zn_J7_fill_53178 20 [] [] μ Q) : ∀ (j i : Nat) (μ : zq_Me), i + j = 8 → ((zq_fr [48] μ0 μ ∧ ∀ j, j < i → μ.1 48 j = v)) → zq_Wp zn_J7_fill_53178 5 [(0, .ref 48), (1, .int v), (2, .int (nI i)), (3, .int (nI 8))] [] μ Q := by
  intro j
  induction j with
  | zero =>
    intro i μ hij hI
    obtain rfl : i = 8 := by omega
    refine zq_go zt_J7_fill_53178 3 [] (if (nI 8) ≤ (nI 8) then 20 else 10) [(0, .ref 48), (1, .int v), (2, .int (nI 8)), (3, .int (nI 8))] [] μ rfl trivial ?_
    rw [if_pos (by rw [zn_le (by omega) (by omega)]; omega)]
    exact zq_drp [] [] rfl (kk μ hI)
  | succ j ih =>
    intro i μ hij hI
    refine zq_go zt_J7_fill_53178 3 [] (if (nI 8) ≤ (nI i) then 20 else 10) [(0, .ref 48), (1, .int v), (2, .int (nI i)), (3, .int (nI 8))] [] μ rfl trivial ?_
    rw [if_neg (by rw [zn_le (by omega) (by omega)]; omega)]
    refine zq_go zt_J7_fill_53178 6 [vp_in (nI i) 8] 5 [(0, .ref 48), (1, .int v), (2, .int ((nI i) + (nI 1))), (3, .int (nI 8))] [] (zq_u1 μ 48 ((nI i).toNatClampNeg) v) rfl ⟨zn_in (k := i) rfl (by omega) (by decide), trivial⟩ ?_
    rw [zn_add i 1, zn_cl (n := i) (by omega)]
    exact ih (i + 1) _ (by omega) ⟨hI.1.u1 (by simp), fun q hq => by rw [zq_u1_rd]; split; rfl; exact hI.2 q (by omega)⟩
set_option maxRecDepth 100000 in
set_option maxHeartbeats 4000000 in
theorem zs_fill48 (v : Int32) (μ : zq_Me) : zq_Wp zn_J7_fill_53178 0 [(0, .ref 48), (1, .int v)] [] μ (fun r μ' => r = none ∧ zq_fr [48] μ μ' ∧ ∀ j, j < 8 → μ'.1 48 j = v) := by
  refine zq_go zt_J7_fill_53178 5 [] 5 [(0, .ref 48), (1, .int v), (2, .int (nI 0)), (3, .int (nI 8))] [] μ rfl trivial ?_
  refine zs_fill48_l v μ (fun μ1 hI => ?_) 8 0 μ (by omega) ⟨zq_fr.rf, fun j hj => absurd hj (Nat.not_lt_zero j)⟩
  exact zq_retn zt_J7_fill_53178 rfl rfl (⟨rfl, hI⟩)
set_option maxRecDepth 100000 in
set_option maxHeartbeats 4000000 in
theorem zs_fill49_l {Q : zq_Post} (v : Int64) (μ0 : zq_Me) (kk : ∀ μ : zq_Me, (zq_fr [49] μ0 μ ∧ ∀ j, j < 8 → μ.2.1 49 j = v) → zq_Wp zn_J7_fill_d0a16 22 [] [] μ Q) : ∀ (j i : Nat) (μ : zq_Me), i + j = 8 → ((zq_fr [49] μ0 μ ∧ ∀ j, j < i → μ.2.1 49 j = v)) → zq_Wp zn_J7_fill_d0a16 6 [(0, .ref 49), (1, .long v), (3, .int (nI i)), (4, .int (nI 8))] [] μ Q := by
  intro j
  induction j with
  | zero =>
    intro i μ hij hI
    obtain rfl : i = 8 := by omega
    refine zq_go zt_J7_fill_d0a16 3 [] (if (nI 8) ≤ (nI 8) then 22 else 12) [(0, .ref 49), (1, .long v), (3, .int (nI 8)), (4, .int (nI 8))] [] μ rfl trivial ?_
    rw [if_pos (by rw [zn_le (by omega) (by omega)]; omega)]
    exact zq_drp [] [] rfl (kk μ hI)
  | succ j ih =>
    intro i μ hij hI
    refine zq_go zt_J7_fill_d0a16 3 [] (if (nI 8) ≤ (nI i) then 22 else 12) [(0, .ref 49), (1, .long v), (3, .int (nI i)), (4, .int (nI 8))] [] μ rfl trivial ?_
    rw [if_neg (by rw [zn_le (by omega) (by omega)]; omega)]
    refine zq_go zt_J7_fill_d0a16 6 [vp_in (nI i) 8] 6 [(0, .ref 49), (1, .long v), (3, .int ((nI i) + (nI 1))), (4, .int (nI 8))] [] (zq_u2 μ 49 ((nI i).toNatClampNeg) v) rfl ⟨zn_in (k := i) rfl (by omega) (by decide), trivial⟩ ?_
    rw [zn_add i 1, zn_cl (n := i) (by omega)]
    exact ih (i + 1) _ (by omega) ⟨hI.1.u2 (by simp), fun q hq => by rw [zq_u2_rd]; split; rfl; exact hI.2 q (by omega)⟩
set_option maxRecDepth 100000 in
set_option maxHeartbeats 4000000 in
theorem zs_fill49 (v : Int64) (μ : zq_Me) : zq_Wp zn_J7_fill_d0a16 0 [(0, .ref 49), (1, .long v)] [] μ (fun r μ' => r = none ∧ zq_fr [49] μ μ' ∧ ∀ j, j < 8 → μ'.2.1 49 j = v) := by
  refine zq_go zt_J7_fill_d0a16 5 [] 6 [(0, .ref 49), (1, .long v), (3, .int (nI 0)), (4, .int (nI 8))] [] μ rfl trivial ?_
  refine zs_fill49_l v μ (fun μ1 hI => ?_) 8 0 μ (by omega) ⟨zq_fr.rf, fun j hj => absurd hj (Nat.not_lt_zero j)⟩
  exact zq_retn zt_J7_fill_d0a16 rfl rfl (⟨rfl, hI⟩)
