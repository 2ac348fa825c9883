/-! ===== seen: never, was ===== -/
def ysn (np : Nat) (R : Nat → Nat → Nat) (S : zES) (i : Nat) : Bool := decide (S.2.2.1 i < np) && decide (R (S.2.2.1 i) (S.2.1 i) = S.2.2.2 i)
def yall (p : Nat → Bool) : Nat → Bool
  | 0 => true
  | n + 1 => yall p n && p n
theorem yall_m {p : Nat → Bool} {i : Nat} (h : yall p i = false) : ∀ n, i ≤ n → yall p n = false
  | 0, hn => by
    have e : i = 0 := by omega
    subst e
    exact h
  | n + 1, hn => by
    show (yall p n && p n) = false
    by_cases e : i = n + 1
    · subst e; exact h
    · rw [yall_m h n (by omega)]; rfl
theorem yall_f {p : Nat → Bool} {k n : Nat} (h : p k = false) (hk : k < n) : yall p n = false := yall_m (i := k + 1) (by show (yall p k && p k) = false; rw [h, Bool.and_false]) n (by omega)
theorem yall_t {p : Nat → Bool} : ∀ {n : Nat}, (∀ i, i < n → p i = true) → yall p n = true
  | 0, _ => rfl
  | n + 1, h => by
    show (yall p n && p n) = true
    rw [yall_t (fun i hi => h i (by omega)), h n (by omega)]
    rfl
def ySee (np : Nat) (R : Nat → Nat → Nat) (S : zES) : Bool := yall (ysn np R S) S.1
theorem zB1 : zB true = nI 1 := rfl
theorem zB0 : zB false = nI 0 := rfl
set_option maxRecDepth 100000 in
set_option maxHeartbeats 400000 in
theorem zs_allIn_l {np : Nat} {R : Nat → Nat → Nat} {S : zES} {μ : zq_Me} (hQ : zQ40 np R μ) (hS : zSi 20 3 21 22 23 S μ) : ∀ (j i : Nat), i + j = S.1 → (∀ q, q < i → ysn np R S q = true) → zq_Wp zn_X5_allIn 10 [(0, .ref 20), (1, .ref 40), (2, .int (nI np)), (3, .int (nI i))] [] μ (zq_pi (zB (ySee np R S)) μ) := by
  have hnp := hQ.1
  have hs8 := hS.1
  intro j
  induction j with
  | zero =>
    intro i hij hm
    refine zq_go zt_X5_allIn 4 [] (if (μ.1 20 3) ≤ (nI i) then 61 else 18) [(0, .ref 20), (1, .ref 40), (2, .int (nI np)), (3, .int (nI i))] [] μ rfl trivial ?_
    rw [hS.2.1]
    rw [if_pos (by rw [zn_le (by omega) (by omega)]; omega)]
    refine zq_go zt_X5_allIn 1 [] 62 [(0, .ref 20), (1, .ref 40), (2, .int (nI np)), (3, .int (nI i))] [.int (nI 1)] μ rfl trivial ?_
    rw [show ySee np R S = true from yall_t (fun q hq => hm q (by omega))]
    exact zq_retz zt_X5_allIn rfl (Or.inr rfl) (⟨rfl, rfl⟩)
  | succ j ih =>
    intro i hij hm
    obtain ⟨x1, x2, x3, x4, x5, x6⟩ := hS.2.2 i (by omega)
    refine zq_go zt_X5_allIn 4 [] (if (μ.1 20 3) ≤ (nI i) then 61 else 18) [(0, .ref 20), (1, .ref 40), (2, .int (nI np)), (3, .int (nI i))] [] μ rfl trivial ?_
    rw [hS.2.1]
    rw [if_neg (by rw [zn_le (by omega) (by omega)]; omega)]
    refine zq_go zt_X5_allIn 6 [vp_in (nI i) 8] (if (nI np) ≤ (μ.1 22 ((nI i).toNatClampNeg)) then 53 else 28) [(0, .ref 20), (1, .ref 40), (2, .int (nI np)), (3, .int (nI i))] [] μ rfl ⟨zn_in (k := i) rfl (by omega) (by decide), trivial⟩ ?_
    rw [zn_cl (n := i) (by omega), x3]
    refine zq_ite (fun h20 => ?_) (fun h20 => ?_)
    · rw [zn_le (by omega) (by omega)] at h20
      rw [show ySee np R S = false from yall_f (k := i) (by unfold ysn; rw [decide_eq_false (by omega)]; rfl) (by omega)]
      refine zq_go zt_X5_allIn 1 [] 54 [(0, .ref 20), (1, .ref 40), (2, .int (nI np)), (3, .int (nI i))] [.int (nI 0)] μ rfl trivial ?_
      exact zq_retz zt_X5_allIn rfl (Or.inl rfl) (⟨rfl, rfl⟩)
    · rw [zn_le (by omega) (by omega)] at h20
      refine zq_go zt_X5_allIn 9 [vp_in (nI i) 8, vp_in (nI i) 8] 41 [(0, .ref 20), (1, .ref 40), (2, .int (nI np)), (3, .int (nI i))] [.int (μ.1 22 ((nI i).toNatClampNeg)), .int (μ.1 21 ((nI i).toNatClampNeg)), .ref 40] μ rfl ⟨zn_in (k := i) rfl (by omega) (by decide), ⟨zn_in (k := i) rfl (by omega) (by decide), trivial⟩⟩ ?_
      rw [zn_cl (n := i) (by omega), x3, x1]
      obtain ⟨y1, y2⟩ := hQ.2.2 (S.2.2.1 i) (S.2.1 i) (by omega) x2
      refine zq_call zt_X5_allIn [.ref 40, .int (nI (S.2.1 i)), .int (nI (S.2.2.1 i))] [] (zs_roomOf40 x2 x4 y1) rfl rfl ?_
      rintro _ _ ⟨rfl, rfl⟩
      refine zq_go zt_X5_allIn 5 [vp_in (nI i) 8] (if (nI (R (S.2.2.1 i) (S.2.1 i))) = (μ.1 23 ((nI i).toNatClampNeg)) then 55 else 53) [(0, .ref 20), (1, .ref 40), (2, .int (nI np)), (3, .int (nI i))] [] μ rfl ⟨zn_in (k := i) rfl (by omega) (by decide), trivial⟩ ?_
      rw [zn_cl (n := i) (by omega), x5]
      refine zq_ite (fun h33 => ?_) (fun h33 => ?_)
      · rw [zn_eq (by omega) (by omega)] at h33
        refine zq_go zt_X5_allIn 2 [] 10 [(0, .ref 20), (1, .ref 40), (2, .int (nI np)), (3, .int ((nI i) + (nI 1)))] [] μ rfl trivial ?_
        rw [zn_add i 1]
        refine ih (i + 1) (by omega) (fun q hq => ?_)
        by_cases e : q = i
        · subst e; unfold ysn; rw [decide_eq_true (by omega), decide_eq_true h33]; rfl
        · exact hm q (by omega)
      · rw [zn_eq (by omega) (by omega)] at h33
        rw [show ySee np R S = false from yall_f (k := i) (by unfold ysn; rw [decide_eq_false (p := R (S.2.2.1 i) (S.2.1 i) = S.2.2.2 i) h33, Bool.and_false]) (by omega)]
        refine zq_go zt_X5_allIn 1 [] 54 [(0, .ref 20), (1, .ref 40), (2, .int (nI np)), (3, .int (nI i))] [.int (nI 0)] μ rfl trivial ?_
        exact zq_retz zt_X5_allIn rfl (Or.inl rfl) (⟨rfl, rfl⟩)
set_option maxRecDepth 100000 in
set_option maxHeartbeats 400000 in
theorem zs_allIn {np : Nat} {R : Nat → Nat → Nat} {S : zES} {μ : zq_Me} (hQ : zQ40 np R μ) (hS : zSi 20 3 21 22 23 S μ) : zq_Wp zn_X5_allIn 0 [(0, .ref 20), (1, .ref 40)] [] μ (zq_pi (zB (ySee np R S)) μ) := by
  refine zq_go zt_X5_allIn 6 [] 10 [(0, .ref 20), (1, .ref 40), (2, .int (μ.1 6 5)), (3, .int (nI 0))] [] μ rfl trivial ?_
  rw [hQ.2.1]
  exact zs_allIn_l hQ hS S.1 0 (by omega) (fun q hq => absurd hq (Nat.not_lt_zero q))
set_option maxRecDepth 100000 in
set_option maxHeartbeats 400000 in
theorem zs_isSeen_l {Q : zq_Post} {np : Nat} {R : Nat → Nat → Nat} {S : zES} {μ : zq_Me} (hQ : zQm np R μ) (hS : zSi 50 26 68 69 70 S μ) (kk : zq_Wp zn_X9_isSeen 75 [(1, .int (zB (ySee np R S)))] [] μ Q) : ∀ (j i : Nat), i + j = S.1 → zq_Wp zn_X9_isSeen 8 [(0, .ref 50), (1, .int (zB (yall (ysn np R S) i))), (2, .int (nI i))] [] μ Q := by
  have hnp := hQ.1
  have hs8 := hS.1
  intro j
  induction j with
  | zero =>
    intro i hij
    obtain rfl : i = S.1 := by omega
    refine zq_go zt_X9_isSeen 4 [] (if (μ.1 50 26) ≤ (nI S.1) then 75 else 16) [(0, .ref 50), (1, .int (zB (yall (ysn np R S) S.1))), (2, .int (nI S.1))] [] μ rfl trivial ?_
    rw [hS.2.1]
    rw [if_pos (by rw [zn_le (by omega) (by omega)]; omega)]
    exact zq_drp [1] _ rfl kk
  | succ j ih =>
    intro i hij
    obtain ⟨x1, x2, x3, x4, x5, x6⟩ := hS.2.2 i (by omega)
    refine zq_go zt_X9_isSeen 4 [] (if (μ.1 50 26) ≤ (nI i) then 75 else 16) [(0, .ref 50), (1, .int (zB (yall (ysn np R S) i))), (2, .int (nI i))] [] μ rfl trivial ?_
    rw [hS.2.1]
    rw [if_neg (by rw [zn_le (by omega) (by omega)]; omega)]
    refine zq_go zt_X9_isSeen 2 [] (if (zB (yall (ysn np R S) i)) = 0 then 75 else 20) [(0, .ref 50), (1, .int (zB (yall (ysn np R S) i))), (2, .int (nI i))] [] μ rfl trivial ?_
    refine zq_ite (fun h18 => ?_) (fun h18 => ?_)
    · have h7 := zB_f h18
      have h8 : ySee np R S = false := yall_m h7 S.1 (by omega)
      rw [h7, ← h8]
      exact zq_drp [1] _ rfl kk
    · have h7 := zB_t h18
      refine zq_go zt_X9_isSeen 7 [vp_in (nI i) 8] (if (μ.1 50 5) ≤ (μ.1 69 ((nI i).toNatClampNeg)) then 67 else 33) [(0, .ref 50), (1, .int (zB (yall (ysn np R S) i))), (2, .int (nI i))] [] μ rfl ⟨zn_in (k := i) rfl (by omega) (by decide), trivial⟩ ?_
      rw [zn_cl (n := i) (by omega), x3, hQ.2.1]
      refine zq_ite (fun h26 => ?_) (fun h26 => ?_)
      · rw [zn_le (by omega) (by omega)] at h26
        have h9 : yall (ysn np R S) (i + 1) = false := by
          show (yall (ysn np R S) i && (ysn np R S) i) = false
          rw [h7, Bool.true_and]
          unfold ysn
          rw [decide_eq_false (by omega)]; rfl
        refine zq_go zt_X9_isSeen 4 [] 8 [(0, .ref 50), (1, .int (nI 0)), (2, .int ((nI i) + (nI 1)))] [] μ rfl trivial ?_
        rw [zn_add i 1]
        have hh := ih (i + 1) (by omega)
        rw [h9] at hh
        exact hh
      · rw [zn_le (by omega) (by omega)] at h26
        obtain ⟨y1, y2⟩ := hQ.2.2 (S.2.2.1 i) (S.2.1 i) (by omega) x2
        refine zq_go zt_X9_isSeen 19 [vp_in (nI i) 8, vp_in (nI i) 8, vp_in (((nI 8) * (μ.1 68 ((nI i).toNatClampNeg))) + (μ.1 69 ((nI i).toNatClampNeg))) 192, vp_in (nI i) 8] (if ¬ (μ.1 66 ((((nI 8) * (μ.1 68 ((nI i).toNatClampNeg))) + (μ.1 69 ((nI i).toNatClampNeg))).toNatClampNeg)) = (μ.1 70 ((nI i).toNatClampNeg)) then 67 else 63) [(0, .ref 50), (1, .int (zB (yall (ysn np R S) i))), (2, .int (nI i))] [] μ rfl ⟨zn_in (k := i) rfl (by omega) (by decide), ⟨zn_in (k := i) rfl (by omega) (by decide), ⟨zn_in (k := (8 * (S.2.1 i)) + (S.2.2.1 i)) (by rw [zn_cl (n := i) (by omega), x1, zn_mul 8 (S.2.1 i), x3, zn_add (8 * (S.2.1 i)) (S.2.2.1 i)]) (by omega) (by decide), ⟨zn_in (k := i) rfl (by omega) (by decide), trivial⟩⟩⟩⟩ ?_
        rw [zn_cl (n := i) (by omega), x1, zn_mul 8 (S.2.1 i), x3, zn_add (8 * (S.2.1 i)) (S.2.2.1 i), zn_cl (n := (8 * (S.2.1 i)) + (S.2.2.1 i)) (by omega), y1, x5]
        refine zq_ite (fun h42 => ?_) (fun h42 => ?_)
        · rw [zn_eq (by omega) (by omega)] at h42
          have h9 : yall (ysn np R S) (i + 1) = false := by
            show (yall (ysn np R S) i && (ysn np R S) i) = false
            rw [h7, Bool.true_and]
            unfold ysn
            rw [decide_eq_false (p := R (S.2.2.1 i) (S.2.1 i) = S.2.2.2 i) h42, Bool.and_false]
          refine zq_go zt_X9_isSeen 4 [] 8 [(0, .ref 50), (1, .int (nI 0)), (2, .int ((nI i) + (nI 1)))] [] μ rfl trivial ?_
          rw [zn_add i 1]
          have hh := ih (i + 1) (by omega)
          rw [h9] at hh
          exact hh
        · rw [zn_eq (by omega) (by omega)] at h42
          have h9 : yall (ysn np R S) (i + 1) = true := by
            show (yall (ysn np R S) i && (ysn np R S) i) = true
            rw [h7, Bool.true_and]
            unfold ysn
            rw [decide_eq_true (by omega), decide_eq_true (Classical.not_not.mp h42)]; rfl
          refine zq_go zt_X9_isSeen 2 [] 68 [(0, .ref 50), (1, .int (zB (yall (ysn np R S) i))), (2, .int (nI i))] [.int (nI 1)] μ rfl trivial ?_
          refine zq_go zt_X9_isSeen 3 [] 8 [(0, .ref 50), (1, .int (nI 1)), (2, .int ((nI i) + (nI 1)))] [] μ rfl trivial ?_
          rw [zn_add i 1]
          have hh := ih (i + 1) (by omega)
          rw [h9] at hh
          exact hh
set_option maxRecDepth 100000 in
set_option maxHeartbeats 400000 in
theorem zs_isSeen {τ : zTd} {S : zES} {H : zSH} {μ : zq_Me} (hM : zIm τ S H μ) {srt bed : Nat → Nat} {ld : Nat} {E : zES} {wo : Nat} (hN : zNr τ srt bed ld E wo μ) (hl : ld ≤ 9) (hw : wo < 2 ^ 31) : zq_Wp zn_X9_isSeen 0 [(0, .ref 50)] [] μ (fun r μ1 => r = some (.int (zB (ySee (ynp τ) (yR τ srt bed E.2.1 E.2.2.1 E.2.2.2 wo E.1 ld) S))) ∧ zIm τ S H μ1 ∧ zq_fr [50, 64, 65, 66] μ μ1 ∧ zNr τ srt bed ld E wo μ1 ∧ zQm (ynp τ) (yR τ srt bed E.2.1 E.2.2.1 E.2.2.2 wo E.1 ld) μ1) := by
  refine zq_go zt_X9_isSeen 1 [] 1 [(0, .ref 50)] [.ref 50] μ rfl trivial ?_
  refine zq_call zt_X9_isSeen [.ref 50] [] (zs_tryM hM hN hl hw) rfl rfl ?_
  rintro _ μ1 ⟨rfl, hM1, f1, s1, hN1, q1⟩
  refine zq_go zt_X9_isSeen 4 [] 8 [(0, .ref 50), (1, .int (nI 1)), (2, .int (nI 0))] [] μ1 rfl trivial ?_
  refine zs_isSeen_l q1 hM1.2.2.2.1 ?_ S.1 0 (by omega)
  refine zq_go zt_X9_isSeen 1 [] 76 [(1, .int (zB (ySee (ynp τ) (yR τ srt bed E.2.1 E.2.2.1 E.2.2.2 wo E.1 ld) S)))] [.int (zB (ySee (ynp τ) (yR τ srt bed E.2.1 E.2.2.1 E.2.2.2 wo E.1 ld) S))] μ1 rfl trivial ?_
  exact zq_retz zt_X9_isSeen rfl (zB_01 _) (⟨rfl, hM1, f1, hN1, q1⟩)
def ynv (τ : zTd) (S : zES) : Nat → Bool := fun e => ySee (ynp τ) (yRt τ (2 ^ e)) S
theorem ypw {e n : Nat} (h : e < n) (hn : n ≤ 31) : 2 ^ e < 2 ^ 31 := Nat.pow_lt_pow_right (by decide) (by omega)
theorem zm_or {p : Nat → Bool} {n : Nat} (h : p n = false) : zm p n = zm p (n + 1) := (zm_f h).symm
set_option maxRecDepth 100000 in
set_option maxHeartbeats 400000 in
theorem zs_never_l {τ : zTd} {S : zES} {H : zSH} {μ0 : zq_Me} (hC : zIc τ S H μ0) : ∀ (j e : Nat) (μ : zq_Me), e + j = yne τ → (zq_fr [5, 15, 16, 17, 18, 19, 40, 41, 42, 43, 44, 45, 46, 47, 48] μ0 μ ∧ zK40 (ynd τ) (yo1 τ) (yo2 τ) μ ∧ μ.1 40 11 = -1) → zq_Wp zn_X8_never 4 [(0, .ref 0), (1, .int (nI (zm (ynv τ S) e))), (2, .int (nI e))] [] μ (zRc (.int (nI (zm (ynv τ S) (yne τ)))) τ S H μ0) := by
  have hne := hC.2.2.2.1.2
  have hl9 := hC.2.2.1.2.2
  intro j
  induction j with
  | zero =>
    rintro e μ hij ⟨hF, hK, hw11⟩
    obtain rfl : e = yne τ := by omega
    have h11 : μ.1 11 3 = nI (yne τ) := by rw [hF.a (b := 11) (by decide)]; exact hC.2.2.2.1.1.2.1
    refine zq_go zt_X8_never 5 [] (if (μ.1 11 3) ≤ (nI (yne τ)) then 59 else 15) [(0, .ref 0), (1, .int (nI (zm (ynv τ S) (yne τ)))), (2, .int (nI (yne τ)))] [] μ rfl trivial ?_
    rw [h11]
    rw [if_pos (by rw [zn_le (by omega) (by omega)]; omega)]
    refine zq_go zt_X8_never 1 [] 60 [(0, .ref 0), (1, .int (nI (zm (ynv τ S) (yne τ)))), (2, .int (nI (yne τ)))] [.int (nI (zm (ynv τ S) (yne τ)))] μ rfl trivial ?_
    have hI : zIc τ S H μ := hC.tr hF ⟨hw11, hK⟩
    exact zq_retn zt_X8_never rfl rfl (⟨rfl, hI, hF.wk (by simp +contextual [zSC])⟩)
  | succ j ih =>
    rintro e μ hij ⟨hF, hK, hw11⟩
    have h11 : μ.1 11 3 = nI (yne τ) := by rw [hF.a (b := 11) (by decide)]; exact hC.2.2.2.1.1.2.1
    have hld : μ.1 0 12 = nI (yld τ) := by rw [hF.a (b := 0) (by decide)]; exact hC.2.2.1.1
    have hpe := ypw (show e < 8 by omega) (by decide)
    refine zq_go zt_X8_never 5 [] (if (μ.1 11 3) ≤ (nI e) then 59 else 15) [(0, .ref 0), (1, .int (nI (zm (ynv τ S) e))), (2, .int (nI e))] [] μ rfl trivial ?_
    rw [h11]
    rw [if_neg (by rw [zn_le (by omega) (by omega)]; omega)]
    refine zq_go zt_X8_never 9 [] 30 [(0, .ref 0), (1, .int (nI (zm (ynv τ S) e))), (2, .int (nI e))] [.int (μ.1 0 12), .int ((nI 1) <<< ((nI e) &&& 31)), .ref 11, .ref 40] μ rfl trivial ?_
    rw [hld]
    rw [zn_1shl (show e < 31 by omega)]
    have hP : zP40 (ynp τ) (ysr τ) (yst τ) (ybd τ) μ := zP40.of (hC.2.1.2.fr hF (by decide)) hw11
    refine zq_call zt_X8_never [.ref 40, .ref 11, .int (nI (2 ^ e)), .int (nI (yld τ))] [] (zs_try11 hC hF hK (wo := 2 ^ e) hpe hl9 hP) rfl rfl ?_
    rintro _ μ2 ⟨rfl, hF2, hK2, s2, hP2, q2⟩
    have w2 : μ2.1 40 11 = -1 := by rw [s2 11 (by decide) (by decide)]; exact hw11
    have hS2 : zSi 20 3 21 22 23 S μ2 := hC.2.2.2.2.2.2.2.1.sl (by rw [hF2.a (b := 20) (by decide)]) (hF2.a (by decide)) (hF2.a (by decide)) (hF2.a (by decide))
    refine zq_go zt_X8_never 4 [] 41 [(0, .ref 0), (1, .int (nI (zm (ynv τ S) e))), (2, .int (nI e))] [.ref 40, .ref 20] μ2 rfl trivial ?_
    refine zq_call zt_X8_never [.ref 20, .ref 40] [] (show zq_Wp zn_X5_allIn 0 [(0, .ref 20), (1, .ref 40)] [] μ2 (zq_pi (zB (ynv τ S e)) μ2) from zs_allIn q2 hS2) rfl rfl ?_
    rintro _ _ ⟨rfl, rfl⟩
    refine zq_go zt_X8_never 1 [] (if (zB (ynv τ S e)) = 0 then 53 else 47) [(0, .ref 0), (1, .int (nI (zm (ynv τ S) e))), (2, .int (nI e))] [] μ2 rfl trivial ?_
    refine zq_ite (fun h34 => ?_) (fun h34 => ?_)
    · have h7 := zB_f h34
      refine zq_go zt_X8_never 2 [] 4 [(0, .ref 0), (1, .int (nI (zm (ynv τ S) e))), (2, .int ((nI e) + (nI 1)))] [] μ2 rfl trivial ?_
      rw [zn_add e 1]
      have h9 := ih (e + 1) μ2 (by omega) ⟨hF2, hK2, w2⟩
      rw [zm_f h7] at h9
      exact h9
    · have h7 := zB_t h34
      refine zq_go zt_X8_never 8 [] 4 [(0, .ref 0), (1, .int ((nI (zm (ynv τ S) e)) ||| ((nI 1) <<< ((nI e) &&& 31)))), (2, .int ((nI e) + (nI 1)))] [] μ2 rfl trivial ?_
      rw [zn_add e 1]
      rw [zn_1shl (show e < 31 by omega), zn_or]
      have h9 := ih (e + 1) μ2 (by omega) ⟨hF2, hK2, w2⟩
      rw [zm_t h7] at h9
      exact h9
set_option maxRecDepth 100000 in
set_option maxHeartbeats 400000 in
theorem zs_never {τ : zTd} {S : zES} {H : zSH} {μ0 : zq_Me} (hC : zIc τ S H μ0) : zq_Wp zn_X8_never 0 [(0, .ref 0)] [] μ0 (zRc (.int (nI (zm (ynv τ S) (yne τ)))) τ S H μ0) := by
  refine zq_go zt_X8_never 4 [] 4 [(0, .ref 0), (1, .int (nI 0)), (2, .int (nI 0))] [] μ0 rfl trivial ?_
  exact zs_never_l hC (yne τ) 0 μ0 (by omega) ⟨zq_fr.rf, hC.2.2.2.2.2.1.2, hC.2.2.2.2.2.1.1⟩
set_option maxRecDepth 100000 in
set_option maxHeartbeats 400000 in
theorem zs_neverNow_l {τ : zTd} {S : zES} {H : zSH} {μ0 : zq_Me} : ∀ (j e : Nat) (μ : zq_Me), e + j = yne τ → (zIm τ S H μ ∧ zq_fr zSM μ0 μ ∧ ∃ wo, zNr τ (ysr τ) (ybd τ) (yld τ) τ.2.2.2 wo μ) → zq_Wp zn_X9_neverNow 8 [(0, .ref 50), (1, .int (nI (zm (ynv τ S) e))), (2, .int (nI e))] [] μ (zRm' (.int (nI (zm (ynv τ S) (yne τ)))) τ S H μ0) := by
  intro j
  induction j with
  | zero =>
    rintro e μ hij ⟨hM, hF, w0, hN⟩
    obtain rfl : e = yne τ := by omega
    have hne := hM.2.2.1.2
    refine zq_go zt_X9_neverNow 4 [] (if (μ.1 50 10) ≤ (nI (yne τ)) then 46 else 16) [(0, .ref 50), (1, .int (nI (zm (ynv τ S) (yne τ)))), (2, .int (nI (yne τ)))] [] μ rfl trivial ?_
    rw [hM.2.2.1.1.2.1]
    rw [if_pos (by rw [zn_le (by omega) (by omega)]; omega)]
    refine zq_go zt_X9_neverNow 1 [] 47 [(0, .ref 50), (1, .int (nI (zm (ynv τ S) (yne τ)))), (2, .int (nI (yne τ)))] [.int (nI (zm (ynv τ S) (yne τ)))] μ rfl trivial ?_
    exact zq_retn zt_X9_neverNow rfl rfl (⟨rfl, hM, hF⟩)
  | succ j ih =>
    rintro e μ hij ⟨hM, hF, w0, hN⟩
    have hne := hM.2.2.1.2
    have hl9 := hM.2.1.2.2
    have hpe := ypw (show e < 8 by omega) (by decide)
    refine zq_go zt_X9_neverNow 4 [] (if (μ.1 50 10) ≤ (nI e) then 46 else 16) [(0, .ref 50), (1, .int (nI (zm (ynv τ S) e))), (2, .int (nI e))] [] μ rfl trivial ?_
    rw [hM.2.2.1.1.2.1]
    rw [if_neg (by rw [zn_le (by omega) (by omega)]; omega)]
    refine zq_go zt_X9_neverNow 5 [] 23 [(0, .ref 50), (1, .int (nI (zm (ynv τ S) e))), (2, .int (nI e))] [] (zq_u1 μ 50 19 ((nI 1) <<< ((nI e) &&& 31))) rfl trivial ?_
    rw [zn_1shl (show e < 31 by omega)]
    obtain ⟨μ1, hμ1⟩ : ∃ k9 : zq_Me, k9 = (zq_u1 μ 50 19 (nI (2 ^ e))) := ⟨_, rfl⟩
    rw [← hμ1]
    have f1 : zq_fr [50] μ μ1 := by rw [hμ1]; exact zq_fr.rf.u1 (by simp)
    have s1 : ∀ i, i ≠ 19 → μ1.1 50 i = μ.1 50 i := fun i hi => by rw [hμ1, zq_u1_o2 hi]
    have hM1 : zIm τ S H μ1 := hM.kp f1 (by decide) (fun i hi => s1 i (by simp at hi; omega))
    have hN1 : zNr τ (ysr τ) (ybd τ) (yld τ) τ.2.2.2 (2 ^ e) μ1 := by
      obtain ⟨d, p, l, e9, w9⟩ := hN
      exact ⟨⟨d.1, by rw [s1 2 (by decide)]; exact d.2.1, by rw [f1.a (b := 53) (by decide)]; exact d.2.2.1, by rw [f1.a (b := 54) (by decide)]; exact d.2.2.2⟩, p.sl (s1 5 (by decide)) (f1.a (by decide)) (f1.a (by decide)) (f1.a (by decide)), by rw [s1 14 (by decide)]; exact l, e9.sl (s1 15 (by decide)) (f1.a (by decide)) (f1.a (by decide)) (f1.a (by decide)), by rw [hμ1, zq_u1_s]⟩
    refine zq_go zt_X9_neverNow 2 [] 25 [(0, .ref 50), (1, .int (nI (zm (ynv τ S) e))), (2, .int (nI e))] [.ref 50, .int (nI (zm (ynv τ S) e))] μ1 rfl trivial ?_
    refine zq_call zt_X9_neverNow [.ref 50] [.int (nI (zm (ynv τ S) e))] (show zq_Wp zn_X9_isSeen 0 [(0, .ref 50)] [] μ1 (fun r μ2 => r = some (.int (zB (ynv τ S e))) ∧ zIm τ S H μ2 ∧ zq_fr [50, 64, 65, 66] μ1 μ2 ∧ zNr τ (ysr τ) (ybd τ) (yld τ) τ.2.2.2 (2 ^ e) μ2 ∧ zQm (ynp τ) (yRt τ (2 ^ e)) μ2) from zs_isSeen hM1 hN1 hl9 hpe) rfl rfl ?_
    rintro _ μ2 ⟨rfl, hM2, f2, hN2, q2⟩
    refine zq_go zt_X9_neverNow 1 [] (if (zB (ynv τ S e)) = 0 then 37 else 31) [(0, .ref 50), (1, .int (nI (zm (ynv τ S) e))), (2, .int (nI e))] [.int (nI (zm (ynv τ S) e))] μ2 rfl trivial ?_
    refine zq_ite (fun h33 => ?_) (fun h33 => ?_)
    · have h7 := zB_f h33
      refine zq_go zt_X9_neverNow 5 [] 8 [(0, .ref 50), (1, .int ((nI (zm (ynv τ S) e)) ||| (nI 0))), (2, .int ((nI e) + (nI 1)))] [] μ2 rfl trivial ?_
      rw [zn_add e 1]
      rw [zn_or, Nat.or_zero]
      have h9 := ih (e + 1) μ2 (by omega) ⟨hM2, hF.tr ((f1.wk (by simp [zSM])).tr (f2.wk (by simp +contextual [zSM]))), 2 ^ e, hN2⟩
      rw [zm_f h7] at h9
      exact h9
    · have h7 := zB_t h33
      refine zq_go zt_X9_neverNow 4 [] 38 [(0, .ref 50), (1, .int (nI (zm (ynv τ S) e))), (2, .int (nI e))] [.int ((nI 1) <<< ((nI e) &&& 31)), .int (nI (zm (ynv τ S) e))] μ2 rfl trivial ?_
      refine zq_go zt_X9_neverNow 4 [] 8 [(0, .ref 50), (1, .int ((nI (zm (ynv τ S) e)) ||| ((nI 1) <<< ((nI e) &&& 31)))), (2, .int ((nI e) + (nI 1)))] [] μ2 rfl trivial ?_
      rw [zn_add e 1]
      rw [zn_1shl (show e < 31 by omega), zn_or]
      have h9 := ih (e + 1) μ2 (by omega) ⟨hM2, hF.tr ((f1.wk (by simp [zSM])).tr (f2.wk (by simp +contextual [zSM]))), 2 ^ e, hN2⟩
      rw [zm_t h7] at h9
      exact h9
set_option maxRecDepth 100000 in
set_option maxHeartbeats 400000 in
theorem zs_neverNow {τ : zTd} {S : zES} {H : zSH} {μ0 : zq_Me} (hM : zIm τ S H μ0) : zq_Wp zn_X9_neverNow 0 [(0, .ref 50)] [] μ0 (zRm' (.int (nI (zm (ynv τ S) (yne τ)))) τ S H μ0) := by
  refine zq_go zt_X9_neverNow 1 [] 1 [(0, .ref 50)] [.ref 50] μ0 rfl trivial ?_
  refine zq_call zt_X9_neverNow [.ref 50] [] (zs_asTold hM) rfl rfl ?_
  rintro _ ν1 ⟨rfl, n1, k1, o1⟩
  refine zq_go zt_X9_neverNow 4 [] 8 [(0, .ref 50), (1, .int (nI 0)), (2, .int (nI 0))] [] ν1 rfl trivial ?_
  exact zs_neverNow_l (yne τ) 0 ν1 (by omega) ⟨n1, k1, 0, o1.r⟩
set_option maxRecDepth 100000 in
set_option maxHeartbeats 400000 in
theorem zs_neverm {τ : zTd} {S : zES} {H : zSH} {μ0 : zq_Me} (hM : zIm τ S H μ0) : zq_Wp zn_X9_never 0 [(0, .ref 50)] [] μ0 (zRm' (.int (nI (zm (ynv τ S) (yne τ)))) τ S H μ0) := by
  refine zq_go zt_X9_never 1 [] 1 [(0, .ref 50)] [.ref 50] μ0 rfl trivial ?_
  refine zq_call zt_X9_never [.ref 50] [] (zs_neverNow hM) rfl rfl ?_
  rintro _ ν1 ⟨rfl, n1, k1⟩
  exact zq_retn zt_X9_never rfl rfl (⟨rfl, n1, k1⟩)
theorem zo_never : zop zn_X8_never [(0, .ref 0)] zn_X9_never [(0, .ref 50)] := fun τ S H μ hC _ => ⟨_, τ, S, H, zs_never hC, fun _ h => zs_neverm h⟩
def yso (τ : zTd) (S : zES) (k : Nat) : Nat → Bool := fun v => ySee (ynp τ) (yR τ (yub (ysr τ) k v) (ybd τ) (yek τ) (yeh τ) (yen τ) 0 (yne τ) (yld τ)) S
def ybe (τ : zTd) (S : zES) (k : Nat) : Nat → Bool := fun v => ySee (ynp τ) (yR τ (ysr τ) (yub (ybd τ) k v) (yek τ) (yeh τ) (yen τ) 0 (yne τ) (yld τ)) S
def ybh (τ : zTd) (k v h : Nat) : Nat := (yR τ (ysr τ) (yub (ybd τ) k v) (yek τ) (yeh τ) (yen τ) 0 (yne τ) (yld τ)) k h
set_option maxRecDepth 100000 in
set_option maxHeartbeats 400000 in
theorem zs_sorts_l {τ : zTd} {S : zES} {H : zSH} {μ0 : zq_Me} (hC : zIc τ S H μ0) {k : Nat} (lk : k < ynp τ) : ∀ (j v : Nat) (μ : zq_Me), v + j = 3 → (zq_fr [5, 15, 16, 17, 18, 19, 40, 41, 42, 43, 44, 45, 46, 47, 48] μ0 μ ∧ zK40 (ynd τ) (yo1 τ) (yo2 τ) μ) → zq_Wp zn_X8_sortsThatFit 4 [(0, .ref 0), (1, .int (nI k)), (2, .int (nI (zm (yso τ S k) v))), (3, .int (nI v))] [] μ (zRc (.int (nI (zm (yso τ S k) 3))) τ S H μ0) := by
  have hnp := hC.2.1.2.1
  have hl9 := hC.2.2.1.2.2
  intro j
  induction j with
  | zero =>
    rintro v μ hij ⟨hF, hK⟩
    obtain rfl : v = 3 := by omega
    refine zq_go zt_X8_sortsThatFit 3 [] (if (nI 3) ≤ (nI 3) then 61 else 9) [(0, .ref 0), (1, .int (nI k)), (2, .int (nI (zm (yso τ S k) 3))), (3, .int (nI 3))] [] μ rfl trivial ?_
    rw [if_pos (by decide)]
    refine zq_go zt_X8_sortsThatFit 5 [] 68 [(0, .ref 0), (1, .int (nI k)), (2, .int (nI (zm (yso τ S k) 3))), (3, .int (nI 3))] [.int (-1), .int (-1), .int (-1), .ref 40] μ rfl trivial ?_
    refine zq_call zt_X8_sortsThatFit [.ref 40, .int (-1), .int (-1), .int (-1)] [] (zs_suppose (-1) (-1) (-1) μ) rfl rfl ?_
    rintro _ μ4 ⟨rfl, f4, p1, p2, p3⟩
    have hF4 : zq_fr [5, 15, 16, 17, 18, 19, 40, 41, 42, 43, 44, 45, 46, 47, 48] μ0 μ4 := hF.tr (f4.wk (by simp))
    have hI : zIc τ S H μ4 := hC.tr hF4 ⟨p1, by unfold zK40; rw [f4.a (b := 46) (by decide), f4.a (b := 45) (by decide)]; exact hK⟩
    refine zq_go zt_X8_sortsThatFit 1 [] 72 [(0, .ref 0), (1, .int (nI k)), (2, .int (nI (zm (yso τ S k) 3))), (3, .int (nI 3))] [.int (nI (zm (yso τ S k) 3))] μ4 rfl trivial ?_
    exact zq_retn zt_X8_sortsThatFit rfl rfl (⟨rfl, hI, hF4.wk (by simp +contextual [zSC])⟩)
  | succ j ih =>
    rintro v μ hij ⟨hF, hK⟩
    refine zq_go zt_X8_sortsThatFit 3 [] (if (nI 3) ≤ (nI v) then 61 else 9) [(0, .ref 0), (1, .int (nI k)), (2, .int (nI (zm (yso τ S k) v))), (3, .int (nI v))] [] μ rfl trivial ?_
    rw [if_neg (by rw [zn_le (by omega) (by omega)]; omega)]
    refine zq_go zt_X8_sortsThatFit 5 [] 16 [(0, .ref 0), (1, .int (nI k)), (2, .int (nI (zm (yso τ S k) v))), (3, .int (nI v))] [.int (-1), .int (nI v), .int (nI k), .ref 40] μ rfl trivial ?_
    refine zq_call zt_X8_sortsThatFit [.ref 40, .int (nI k), .int (nI v), .int (-1)] [] (zs_suppose (nI k) (nI v) (-1) μ) rfl rfl ?_
    rintro _ μ1 ⟨rfl, f1, p1, p2, p3⟩
    have hF1 : zq_fr [5, 15, 16, 17, 18, 19, 40, 41, 42, 43, 44, 45, 46, 47, 48] μ0 μ1 := hF.tr (f1.wk (by simp))
    have hK1 : zK40 (ynd τ) (yo1 τ) (yo2 τ) μ1 := by unfold zK40; rw [f1.a (b := 46) (by decide), f1.a (b := 45) (by decide)]; exact hK
    have hP1 : zP40 (ynp τ) (yub (ysr τ) k v) (yst τ) (ybd τ) μ1 := zP40.st (hC.2.1.2.fr hF1 (by decide)) lk (by omega) p1 p2 p3
    have hld : μ1.1 0 12 = nI (yld τ) := by rw [hF1.a (b := 0) (by decide)]; exact hC.2.2.1.1
    refine zq_go zt_X8_sortsThatFit 7 [] 32 [(0, .ref 0), (1, .int (nI k)), (2, .int (nI (zm (yso τ S k) v))), (3, .int (nI v))] [.int (μ1.1 0 12), .int (nI 0), .ref 11, .ref 40] μ1 rfl trivial ?_
    rw [hld]
    refine zq_call zt_X8_sortsThatFit [.ref 40, .ref 11, .int (nI 0), .int (nI (yld τ))] [] (zs_try11 hC hF1 hK1 (wo := 0) (by decide) hl9 hP1) rfl rfl ?_
    rintro _ μ2 ⟨rfl, hF2, hK2, s2, hP2, q2⟩
    have hS2 : zSi 20 3 21 22 23 S μ2 := hC.2.2.2.2.2.2.2.1.sl (by rw [hF2.a (b := 20) (by decide)]) (hF2.a (by decide)) (hF2.a (by decide)) (hF2.a (by decide))
    refine zq_go zt_X8_sortsThatFit 4 [] 43 [(0, .ref 0), (1, .int (nI k)), (2, .int (nI (zm (yso τ S k) v))), (3, .int (nI v))] [.ref 40, .ref 20] μ2 rfl trivial ?_
    refine zq_call zt_X8_sortsThatFit [.ref 20, .ref 40] [] (show zq_Wp zn_X5_allIn 0 [(0, .ref 20), (1, .ref 40)] [] μ2 (zq_pi (zB (yso τ S k v)) μ2) from zs_allIn q2 hS2) rfl rfl ?_
    rintro _ _ ⟨rfl, rfl⟩
    refine zq_go zt_X8_sortsThatFit 1 [] (if (zB (yso τ S k v)) = 0 then 55 else 49) [(0, .ref 0), (1, .int (nI k)), (2, .int (nI (zm (yso τ S k) v))), (3, .int (nI v))] [] μ2 rfl trivial ?_
    refine zq_ite (fun h36 => ?_) (fun h36 => ?_)
    · have h7 := zB_f h36
      refine zq_go zt_X8_sortsThatFit 2 [] 4 [(0, .ref 0), (1, .int (nI k)), (2, .int (nI (zm (yso τ S k) v))), (3, .int ((nI v) + (nI 1)))] [] μ2 rfl trivial ?_
      rw [zn_add v 1]
      have h9 := ih (v + 1) μ2 (by omega) ⟨hF2, hK2⟩
      rw [zm_f h7] at h9
      exact h9
    · have h7 := zB_t h36
      refine zq_go zt_X8_sortsThatFit 8 [] 4 [(0, .ref 0), (1, .int (nI k)), (2, .int ((nI (zm (yso τ S k) v)) ||| ((nI 1) <<< ((nI v) &&& 31)))), (3, .int ((nI v) + (nI 1)))] [] μ2 rfl trivial ?_
      rw [zn_add v 1]
      rw [zn_1shl (show v < 31 by omega), zn_or]
      have h9 := ih (v + 1) μ2 (by omega) ⟨hF2, hK2⟩
      rw [zm_t h7] at h9
      exact h9
set_option maxRecDepth 100000 in
set_option maxHeartbeats 400000 in
theorem zs_sorts {τ : zTd} {S : zES} {H : zSH} {μ0 : zq_Me} {k : Nat} (lk : k < ynp τ) (hC : zIc τ S H μ0) : zq_Wp zn_X8_sortsThatFit 0 [(0, .ref 0), (1, .int (nI k))] [] μ0 (zRc (.int (nI (zm (yso τ S k) 3))) τ S H μ0) := by
  refine zq_go zt_X8_sortsThatFit 4 [] 4 [(0, .ref 0), (1, .int (nI k)), (2, .int (nI 0)), (3, .int (nI 0))] [] μ0 rfl trivial ?_
  exact zs_sorts_l hC lk 3 0 μ0 (by omega) ⟨zq_fr.rf, hC.2.2.2.2.2.1.2⟩
set_option maxRecDepth 100000 in
set_option maxHeartbeats 400000 in
theorem zs_sortsBy_l {τ : zTd} {S : zES} {H : zSH} {μ0 : zq_Me} {k : Nat} (lk : k < ynp τ) : ∀ (j v : Nat) (μ : zq_Me), v + j = 3 → (zIm τ S H μ ∧ zq_fr zSM μ0 μ ∧ ∃ b, b ≤ 2 ∧ zNr τ (yub (ysr τ) k b) (ybd τ) (yld τ) τ.2.2.2 0 μ) → zq_Wp zn_X9_sortsBy 16 [(0, .ref 50), (1, .int (nI k)), (2, .int (nI (ysr τ k))), (3, .int (nI (zm (yso τ S k) v))), (4, .int (nI v))] [] μ (zRm' (.int (nI (zm (yso τ S k) 3))) τ S H μ0) := by
  intro j
  induction j with
  | zero =>
    rintro v μ hij ⟨hM, hF, b0, lb0, hN⟩
    obtain rfl : v = 3 := by omega
    have hnp := hN.2.1.1
    refine zq_go zt_X9_sortsBy 3 [] (if (nI 3) ≤ (nI 3) then 54 else 22) [(0, .ref 50), (1, .int (nI k)), (2, .int (nI (ysr τ k))), (3, .int (nI (zm (yso τ S k) 3))), (4, .int (nI 3))] [] μ rfl trivial ?_
    rw [if_pos (by decide)]
    refine zq_go zt_X9_sortsBy 6 [vp_in (nI k) 9] 62 [(0, .ref 50), (1, .int (nI k)), (2, .int (nI (ysr τ k))), (3, .int (nI (zm (yso τ S k) 3))), (4, .int (nI 3))] [.int (nI (zm (yso τ S k) 3))] (zq_u1 μ 55 ((nI k).toNatClampNeg) (nI (ysr τ k))) rfl ⟨zn_in (k := k) rfl (by omega) (by decide), trivial⟩ ?_
    rw [zn_cl (n := k) (by omega)]
    obtain ⟨μ4, hμ4⟩ : ∃ k9 : zq_Me, k9 = (zq_u1 μ 55 k (nI (ysr τ k))) := ⟨_, rfl⟩
    rw [← hμ4]
    have f4 : zq_fr [55] μ μ4 := by rw [hμ4]; exact zq_fr.rf.u1 (by simp)
    have hI : zIm τ S H μ4 := hM.kp f4 (by decide) (fun i hi => by rw [f4.a (b := 50) (by decide)])
    have hF4 : zq_fr zSM μ0 μ4 := hF.tr (f4.wk (by simp [zSM]))
    exact zq_retn zt_X9_sortsBy rfl rfl (⟨rfl, hI, hF4⟩)
  | succ j ih =>
    rintro v μ hij ⟨hM, hF, b0, lb0, hN⟩
    have hnp := hN.2.1.1
    have hl9 := hM.2.1.2.2
    refine zq_go zt_X9_sortsBy 3 [] (if (nI 3) ≤ (nI v) then 54 else 22) [(0, .ref 50), (1, .int (nI k)), (2, .int (nI (ysr τ k))), (3, .int (nI (zm (yso τ S k) v))), (4, .int (nI v))] [] μ rfl trivial ?_
    rw [if_neg (by rw [zn_le (by omega) (by omega)]; omega)]
    refine zq_go zt_X9_sortsBy 5 [vp_in (nI k) 9] 30 [(0, .ref 50), (1, .int (nI k)), (2, .int (nI (ysr τ k))), (3, .int (nI (zm (yso τ S k) v))), (4, .int (nI v))] [] (zq_u1 μ 55 ((nI k).toNatClampNeg) (nI v)) rfl ⟨zn_in (k := k) rfl (by omega) (by decide), trivial⟩ ?_
    rw [zn_cl (n := k) (by omega)]
    obtain ⟨μ1, hμ1⟩ : ∃ k9 : zq_Me, k9 = (zq_u1 μ 55 k (nI v)) := ⟨_, rfl⟩
    rw [← hμ1]
    have f1 : zq_fr [55] μ μ1 := by rw [hμ1]; exact zq_fr.rf.u1 (by simp)
    have hM1 : zIm τ S H μ1 := hM.kp f1 (by decide) (fun i hi => by rw [f1.a (b := 50) (by decide)])
    have hN1 : zNr τ (yub (ysr τ) k v) (ybd τ) (yld τ) τ.2.2.2 0 μ1 := by
      obtain ⟨d, p, l, e, w9⟩ := hN
      have q50 : μ1.1 50 = μ.1 50 := f1.a (by decide)
      exact ⟨d.fr f1 (by decide), p.st (by omega) (by rw [q50]) (f1.a (by decide)) (f1.a (by decide)) (fun q => by rw [hμ1, zq_u1_rd]), by rw [q50]; exact l, e.fr f1 (by decide), by rw [q50]; exact w9⟩
    refine zq_go zt_X9_sortsBy 2 [] 32 [(0, .ref 50), (1, .int (nI k)), (2, .int (nI (ysr τ k))), (3, .int (nI (zm (yso τ S k) v))), (4, .int (nI v))] [.ref 50, .int (nI (zm (yso τ S k) v))] μ1 rfl trivial ?_
    refine zq_call zt_X9_sortsBy [.ref 50] [.int (nI (zm (yso τ S k) v))] (show zq_Wp zn_X9_isSeen 0 [(0, .ref 50)] [] μ1 (fun r μ2 => r = some (.int (zB (yso τ S k v))) ∧ zIm τ S H μ2 ∧ zq_fr [50, 64, 65, 66] μ1 μ2 ∧ zNr τ (yub (ysr τ) k v) (ybd τ) (yld τ) τ.2.2.2 0 μ2 ∧ zQm (ynp τ) (yR τ (yub (ysr τ) k v) (ybd τ) (yek τ) (yeh τ) (yen τ) 0 (yne τ) (yld τ)) μ2) from zs_isSeen hM1 hN1 hl9 (by decide)) rfl rfl ?_
    rintro _ μ2 ⟨rfl, hM2, f2, hN2, q2⟩
    refine zq_go zt_X9_sortsBy 1 [] (if (zB (yso τ S k v)) = 0 then 45 else 38) [(0, .ref 50), (1, .int (nI k)), (2, .int (nI (ysr τ k))), (3, .int (nI (zm (yso τ S k) v))), (4, .int (nI v))] [.int (nI (zm (yso τ S k) v))] μ2 rfl trivial ?_
    refine zq_ite (fun h36 => ?_) (fun h36 => ?_)
    · have h7 := zB_f h36
      refine zq_go zt_X9_sortsBy 5 [] 16 [(0, .ref 50), (1, .int (nI k)), (2, .int (nI (ysr τ k))), (3, .int ((nI (zm (yso τ S k) v)) ||| (nI 0))), (4, .int ((nI v) + (nI 1)))] [] μ2 rfl trivial ?_
      rw [zn_add v 1]
      rw [zn_or, Nat.or_zero]
      have h9 := ih (v + 1) μ2 (by omega) ⟨hM2, hF.tr ((f1.wk (by simp [zSM])).tr (f2.wk (by simp +contextual [zSM]))), v, by omega, hN2⟩
      rw [zm_f h7] at h9
      exact h9
    · have h7 := zB_t h36
      refine zq_go zt_X9_sortsBy 4 [] 46 [(0, .ref 50), (1, .int (nI k)), (2, .int (nI (ysr τ k))), (3, .int (nI (zm (yso τ S k) v))), (4, .int (nI v))] [.int ((nI 1) <<< ((nI v) &&& 31)), .int (nI (zm (yso τ S k) v))] μ2 rfl trivial ?_
      refine zq_go zt_X9_sortsBy 4 [] 16 [(0, .ref 50), (1, .int (nI k)), (2, .int (nI (ysr τ k))), (3, .int ((nI (zm (yso τ S k) v)) ||| ((nI 1) <<< ((nI v) &&& 31)))), (4, .int ((nI v) + (nI 1)))] [] μ2 rfl trivial ?_
      rw [zn_add v 1]
      rw [zn_1shl (show v < 31 by omega), zn_or]
      have h9 := ih (v + 1) μ2 (by omega) ⟨hM2, hF.tr ((f1.wk (by simp [zSM])).tr (f2.wk (by simp +contextual [zSM]))), v, by omega, hN2⟩
      rw [zm_t h7] at h9
      exact h9
set_option maxRecDepth 100000 in
set_option maxHeartbeats 400000 in
theorem zs_sortsBy {τ : zTd} {S : zES} {H : zSH} {μ0 : zq_Me} {k : Nat} (lk : k < ynp τ) (hM : zIm τ S H μ0) : zq_Wp zn_X9_sortsBy 0 [(0, .ref 50), (1, .int (nI k))] [] μ0 (zRm' (.int (nI (zm (yso τ S k) 3))) τ S H μ0) := by
  refine zq_go zt_X9_sortsBy 1 [] 1 [(0, .ref 50), (1, .int (nI k))] [.ref 50] μ0 rfl trivial ?_
  refine zq_call zt_X9_sortsBy [.ref 50] [] (zs_asTold hM) rfl rfl ?_
  rintro _ ν1 ⟨rfl, n1, k1, o1⟩
  have hnp := o1.2.1.1
  obtain ⟨c1, c2, c3, c4, c5, c6⟩ := o1.2.1.2.2 k lk
  refine zq_go zt_X9_sortsBy 9 [vp_in (nI k) 9] 16 [(0, .ref 50), (1, .int (nI k)), (2, .int (ν1.1 55 ((nI k).toNatClampNeg))), (3, .int (nI 0)), (4, .int (nI 0))] [] ν1 rfl ⟨zn_in (k := k) rfl (by omega) (by decide), trivial⟩ ?_
  rw [zn_cl (n := k) (by omega), c1]
  exact zs_sortsBy_l lk 3 0 ν1 (by omega) ⟨n1, k1, ysr τ k, c2, by rw [yub_self]; exact o1.r⟩
set_option maxRecDepth 100000 in
set_option maxHeartbeats 400000 in
theorem zs_paths_l {Q : zq_Post} {τ : zTd} {μ2 : zq_Me} {k v : Nat} {bits : Int32} (lk : k < ynp τ) (lv : v < 8) (hQ : zQ40 (ynp τ) (yR τ (ysr τ) (yub (ybd τ) k v) (yek τ) (yeh τ) (yen τ) 0 (yne τ) (yld τ)) μ2) (kk : ∀ μ : zq_Me, (zq_fr [47] μ2 μ ∧ (∀ i, i < 24 → μ.1 47 (v * 24 + i) = nI (ybh τ k v i)) ∧ ∀ i, (i < v * 24 ∨ v * 24 + 24 ≤ i) → μ.1 47 i = μ2.1 47 i) → zq_Wp zn_X8_bedsThatFit 94 [(0, .ref 0), (1, .int (nI k)), (2, .int bits), (3, .int (nI v))] [] μ Q) : ∀ (j h : Nat) (μ : zq_Me), h + j = 24 → (zq_fr [47] μ2 μ ∧ (∀ i, i < h → μ.1 47 (v * 24 + i) = nI (ybh τ k v i)) ∧ ∀ i, (i < v * 24 ∨ v * 24 + 24 ≤ i) → μ.1 47 i = μ2.1 47 i) → zq_Wp zn_X8_bedsThatFit 59 [(0, .ref 0), (1, .int (nI k)), (2, .int bits), (3, .int (nI v)), (4, .int (nI h))] [] μ Q := by
  have hnp := hQ.1
  intro j
  induction j with
  | zero =>
    rintro h μ hij hI
    obtain rfl : h = 24 := by omega
    refine zq_go zt_X8_bedsThatFit 3 [] (if (nI 24) ≤ (nI 24) then 94 else 66) [(0, .ref 0), (1, .int (nI k)), (2, .int bits), (3, .int (nI v)), (4, .int (nI 24))] [] μ rfl trivial ?_
    rw [if_pos (by decide)]
    exact zq_drp [0, 1, 2, 3] _ rfl (kk μ hI)
  | succ j ih =>
    rintro h μ hij ⟨hF, hA, hB⟩
    have hr : μ.1 41 (h * 8 + k) = nI (ybh τ k v h) := by rw [hF.a (b := 41) (by decide)]; exact (hQ.2.2 k h lk (by omega)).1
    refine zq_go zt_X8_bedsThatFit 3 [] (if (nI 24) ≤ (nI h) then 94 else 66) [(0, .ref 0), (1, .int (nI k)), (2, .int bits), (3, .int (nI v)), (4, .int (nI h))] [] μ rfl trivial ?_
    rw [if_neg (by rw [zn_le (by omega) (by omega)]; omega)]
    refine zq_go zt_X8_bedsThatFit 11 [] 84 [(0, .ref 0), (1, .int (nI k)), (2, .int bits), (3, .int (nI v)), (4, .int (nI h))] [.int (nI k), .int (nI h), .ref 40, .int (((nI v) * (nI 24)) + (nI h)), .ref 47] μ rfl trivial ?_
    rw [zn_mul v 24, zn_add (v * 24) h]
    refine zq_call zt_X8_bedsThatFit [.ref 40, .int (nI h), .int (nI k)] [.int (nI ((v * 24) + h)), .ref 47] (zs_roomOf40 (show h < 24 by omega) (show k < 8 by omega) hr) rfl rfl ?_
    rintro _ _ ⟨rfl, rfl⟩
    refine zq_go zt_X8_bedsThatFit 3 [vp_in (nI ((v * 24) + h)) 192] 59 [(0, .ref 0), (1, .int (nI k)), (2, .int bits), (3, .int (nI v)), (4, .int ((nI h) + (nI 1)))] [] (zq_u1 μ 47 ((nI ((v * 24) + h)).toNatClampNeg) (nI (ybh τ k v h))) rfl ⟨zn_in (k := (v * 24) + h) rfl (by omega) (by decide), trivial⟩ ?_
    rw [zn_add h 1, zn_cl (n := (v * 24) + h) (by omega)]
    refine ih (h + 1) _ (by omega) ⟨hF.u1 (by simp), fun i hi => ?_, fun i hi => ?_⟩
    · rw [zq_u1_rd]
      by_cases q : i = h
      · rw [if_pos (by omega), q]
      · rw [if_neg (by omega)]; exact hA i (by omega)
    · rw [zq_u1_rd, if_neg (by omega)]; exact hB i hi
theorem zs_try11p {τ : zTd} {S : zES} {H : zSH} {μ0 μ : zq_Me} (hC : zIc τ S H μ0) (hf : zq_fr [5, 15, 16, 17, 18, 19, 40, 41, 42, 43, 44, 45, 46, 47, 48] μ0 μ) (hK : zK40 (ynd τ) (yo1 τ) (yo2 τ) μ) {wo ld : Nat} (hw : wo < 2 ^ 31) (hl : ld ≤ 9) {srt bed : Nat → Nat} (hP : zP40 (ynp τ) srt (yst τ) bed μ) : zq_Wp zn_X7_runWith 0 [(0, .ref 40), (1, .ref 11), (2, .int (nI wo)), (3, .int (nI ld))] [] μ (fun r μ1 => r = none ∧ zq_fr [5, 15, 16, 17, 18, 19, 40, 41, 42, 43, 44, 45, 46, 47, 48] μ0 μ1 ∧ zK40 (ynd τ) (yo1 τ) (yo2 τ) μ1 ∧ (∀ i, i ≠ 9 → i ≠ 10 → μ1.1 40 i = μ.1 40 i) ∧ zP40 (ynp τ) srt (yst τ) bed μ1 ∧ zQ40 (ynp τ) (yR τ srt bed (yek τ) (yeh τ) (yen τ) wo (yne τ) ld) μ1 ∧ μ1.1 47 = μ.1 47) := by
  have hD : zD (ynd τ) (yo1 τ) (yo2 τ) μ := hC.2.1.1.fr hf (by decide)
  have hE : zEv 11 3 12 13 14 (yne τ) (yek τ) (yeh τ) (yen τ) μ := hC.2.2.2.1.1.fr hf (by decide)
  refine zq_Wp_mono (zs_rw40_11 hl hw (zsp_8 (Or.inl hC.2.2.2.1.2)) hD hE hP hK) ?_
  rintro _ μ1 ⟨rfl, f1, s1, k1, w1, r1⟩
  have hn := hE.n
  refine ⟨rfl, hf.tr (f1.wk (by simp +contextual)), k1, s1, hP.sl (f1.a (by decide)) (f1.a (by decide)) (f1.a (by decide)) (f1.a (by decide)) ⟨s1 11 (by decide) (by decide), s1 12 (by decide) (by decide), s1 13 (by decide) (by decide)⟩, ⟨hP.1, by rw [f1.a (b := 6) (by decide)]; exact hP.2.1, fun p h hp hh => ⟨r1 p h hp hh, yR_lt hn (fun q hq => ⟨(hP.2.2 q hq).2.1, (hP.2.2 q hq).2.2.2.2.2⟩) hp hh⟩⟩, f1.a (by decide)⟩
set_option maxRecDepth 100000 in
set_option maxHeartbeats 400000 in
theorem zs_beds_l {τ : zTd} {S : zES} {H : zSH} {μ0 : zq_Me} (hC : zIc τ S H μ0) {k : Nat} (lk : k < ynp τ) : ∀ (j v : Nat) (μ : zq_Me), v + j = 8 → (zq_fr [5, 15, 16, 17, 18, 19, 40, 41, 42, 43, 44, 45, 46, 47, 48] μ0 μ ∧ zK40 (ynd τ) (yo1 τ) (yo2 τ) μ ∧ (∀ u h, u < v → h < 24 → μ.1 47 (u * 24 + h) = nI (ybh τ k u h))) → zq_Wp zn_X8_bedsThatFit 4 [(0, .ref 0), (1, .int (nI k)), (2, .int (nI (zm (ybe τ S k) v))), (3, .int (nI v))] [] μ (fun r μ => r = some (.int (nI (zm (ybe τ S k) 8))) ∧ zIc τ S H μ ∧ zq_fr zSC μ0 μ ∧ (∀ u h, u < 8 → h < 24 → μ.1 47 (u * 24 + h) = nI (ybh τ k u h))) := by
  have hnp := hC.2.1.2.1
  have hl9 := hC.2.2.1.2.2
  intro j
  induction j with
  | zero =>
    rintro v μ hij ⟨hF, hK, hA⟩
    obtain rfl : v = 8 := by omega
    refine zq_go zt_X8_bedsThatFit 3 [] (if (nI 8) ≤ (nI 8) then 100 else 10) [(0, .ref 0), (1, .int (nI k)), (2, .int (nI (zm (ybe τ S k) 8))), (3, .int (nI 8))] [] μ rfl trivial ?_
    rw [if_pos (by decide)]
    refine zq_go zt_X8_bedsThatFit 5 [] 107 [(0, .ref 0), (1, .int (nI k)), (2, .int (nI (zm (ybe τ S k) 8))), (3, .int (nI 8))] [.int (-1), .int (-1), .int (-1), .ref 40] μ rfl trivial ?_
    refine zq_call zt_X8_bedsThatFit [.ref 40, .int (-1), .int (-1), .int (-1)] [] (zs_suppose (-1) (-1) (-1) μ) rfl rfl ?_
    rintro _ μ4 ⟨rfl, f4, p1, p2, p3⟩
    have hF4 : zq_fr [5, 15, 16, 17, 18, 19, 40, 41, 42, 43, 44, 45, 46, 47, 48] μ0 μ4 := hF.tr (f4.wk (by simp))
    have hI : zIc τ S H μ4 := hC.tr hF4 ⟨p1, by unfold zK40; rw [f4.a (b := 46) (by decide), f4.a (b := 45) (by decide)]; exact hK⟩
    refine zq_go zt_X8_bedsThatFit 1 [] 111 [(0, .ref 0), (1, .int (nI k)), (2, .int (nI (zm (ybe τ S k) 8))), (3, .int (nI 8))] [.int (nI (zm (ybe τ S k) 8))] μ4 rfl trivial ?_
    exact zq_retn zt_X8_bedsThatFit rfl rfl (⟨rfl, hI, hF4.wk (by simp +contextual [zSC]), fun u h hu hh => by rw [f4.a (b := 47) (by decide)]; exact hA u h hu hh⟩)
  | succ j ih =>
    rintro v μ hij ⟨hF, hK, hA⟩
    refine zq_go zt_X8_bedsThatFit 3 [] (if (nI 8) ≤ (nI v) then 100 else 10) [(0, .ref 0), (1, .int (nI k)), (2, .int (nI (zm (ybe τ S k) v))), (3, .int (nI v))] [] μ rfl trivial ?_
    rw [if_neg (by rw [zn_le (by omega) (by omega)]; omega)]
    refine zq_go zt_X8_bedsThatFit 5 [] 17 [(0, .ref 0), (1, .int (nI k)), (2, .int (nI (zm (ybe τ S k) v))), (3, .int (nI v))] [.int (nI v), .int (-1), .int (nI k), .ref 40] μ rfl trivial ?_
    refine zq_call zt_X8_bedsThatFit [.ref 40, .int (nI k), .int (-1), .int (nI v)] [] (zs_suppose (nI k) (-1) (nI v) μ) rfl rfl ?_
    rintro _ μ1 ⟨rfl, f1, p1, p2, p3⟩
    have hF1 : zq_fr [5, 15, 16, 17, 18, 19, 40, 41, 42, 43, 44, 45, 46, 47, 48] μ0 μ1 := hF.tr (f1.wk (by simp))
    have hK1 : zK40 (ynd τ) (yo1 τ) (yo2 τ) μ1 := by unfold zK40; rw [f1.a (b := 46) (by decide), f1.a (b := 45) (by decide)]; exact hK
    have hP1 : zP40 (ynp τ) (ysr τ) (yst τ) (yub (ybd τ) k v) μ1 := zP40.bd (hC.2.1.2.fr hF1 (by decide)) lk (by omega) p1 p2 p3
    have hld : μ1.1 0 12 = nI (yld τ) := by rw [hF1.a (b := 0) (by decide)]; exact hC.2.2.1.1
    refine zq_go zt_X8_bedsThatFit 7 [] 33 [(0, .ref 0), (1, .int (nI k)), (2, .int (nI (zm (ybe τ S k) v))), (3, .int (nI v))] [.int (μ1.1 0 12), .int (nI 0), .ref 11, .ref 40] μ1 rfl trivial ?_
    rw [hld]
    refine zq_call zt_X8_bedsThatFit [.ref 40, .ref 11, .int (nI 0), .int (nI (yld τ))] [] (zs_try11p hC hF1 hK1 (wo := 0) (by decide) hl9 hP1) rfl rfl ?_
    rintro _ μ2 ⟨rfl, hF2, hK2, s2, hP2, q2, hp2⟩
    have hp47 : μ2.1 47 = μ.1 47 := by rw [hp2, f1.a (b := 47) (by decide)]
    have hS2 : zSi 20 3 21 22 23 S μ2 := hC.2.2.2.2.2.2.2.1.sl (by rw [hF2.a (b := 20) (by decide)]) (hF2.a (by decide)) (hF2.a (by decide)) (hF2.a (by decide))
    refine zq_go zt_X8_bedsThatFit 4 [] 44 [(0, .ref 0), (1, .int (nI k)), (2, .int (nI (zm (ybe τ S k) v))), (3, .int (nI v))] [.ref 40, .ref 20] μ2 rfl trivial ?_
    refine zq_call zt_X8_bedsThatFit [.ref 20, .ref 40] [] (show zq_Wp zn_X5_allIn 0 [(0, .ref 20), (1, .ref 40)] [] μ2 (zq_pi (zB (ybe τ S k v)) μ2) from zs_allIn q2 hS2) rfl rfl ?_
    rintro _ _ ⟨rfl, rfl⟩
    refine zq_go zt_X8_bedsThatFit 1 [] (if (zB (ybe τ S k v)) = 0 then 56 else 50) [(0, .ref 0), (1, .int (nI k)), (2, .int (nI (zm (ybe τ S k) v))), (3, .int (nI v))] [] μ2 rfl trivial ?_
    refine zq_ite (fun h36 => ?_) (fun h36 => ?_)
    · have h7 := zB_f h36
      refine zq_go zt_X8_bedsThatFit 2 [] 59 [(0, .ref 0), (1, .int (nI k)), (2, .int (nI (zm (ybe τ S k) v))), (3, .int (nI v)), (4, .int (nI 0))] [] μ2 rfl trivial ?_
      refine zs_paths_l lk (show v < 8 by omega) q2 (fun μ3 h3 => ?_) 24 0 μ2 (by omega) ⟨zq_fr.rf, fun i hi => absurd hi (Nat.not_lt_zero i), fun i _ => rfl⟩
      refine zq_go zt_X8_bedsThatFit 2 [] 4 [(0, .ref 0), (1, .int (nI k)), (2, .int (nI (zm (ybe τ S k) v))), (3, .int ((nI v) + (nI 1)))] [] μ3 rfl trivial ?_
      rw [zn_add v 1]
      have h9 := ih (v + 1) μ3 (by omega) ⟨hF2.tr (h3.1.wk (by simp)), by unfold zK40; rw [h3.1.a (b := 46) (by decide), h3.1.a (b := 45) (by decide)]; exact hK2, fun u h hu hh => by
        by_cases q : u = v
        · rw [q]; exact h3.2.1 h hh
        · rw [h3.2.2 (u * 24 + h) (by omega), hp47]; exact hA u h (by omega) hh⟩
      rw [zm_f h7] at h9
      exact h9
    · have h7 := zB_t h36
      refine zq_go zt_X8_bedsThatFit 8 [] 59 [(0, .ref 0), (1, .int (nI k)), (2, .int ((nI (zm (ybe τ S k) v)) ||| ((nI 1) <<< ((nI v) &&& 31)))), (3, .int (nI v)), (4, .int (nI 0))] [] μ2 rfl trivial ?_
      rw [zn_1shl (show v < 31 by omega), zn_or]
      refine zs_paths_l lk (show v < 8 by omega) q2 (fun μ3 h3 => ?_) 24 0 μ2 (by omega) ⟨zq_fr.rf, fun i hi => absurd hi (Nat.not_lt_zero i), fun i _ => rfl⟩
      refine zq_go zt_X8_bedsThatFit 2 [] 4 [(0, .ref 0), (1, .int (nI k)), (2, .int (nI (zm (ybe τ S k) v ||| 2 ^ v))), (3, .int ((nI v) + (nI 1)))] [] μ3 rfl trivial ?_
      rw [zn_add v 1]
      have h9 := ih (v + 1) μ3 (by omega) ⟨hF2.tr (h3.1.wk (by simp)), by unfold zK40; rw [h3.1.a (b := 46) (by decide), h3.1.a (b := 45) (by decide)]; exact hK2, fun u h hu hh => by
        by_cases q : u = v
        · rw [q]; exact h3.2.1 h hh
        · rw [h3.2.2 (u * 24 + h) (by omega), hp47]; exact hA u h (by omega) hh⟩
      rw [zm_t h7] at h9
      exact h9
set_option maxRecDepth 100000 in
set_option maxHeartbeats 400000 in
theorem zs_beds {τ : zTd} {S : zES} {H : zSH} {μ0 : zq_Me} {k : Nat} (lk : k < ynp τ) (hC : zIc τ S H μ0) : zq_Wp zn_X8_bedsThatFit 0 [(0, .ref 0), (1, .int (nI k))] [] μ0 (fun r μ => r = some (.int (nI (zm (ybe τ S k) 8))) ∧ zIc τ S H μ ∧ zq_fr zSC μ0 μ ∧ (∀ u h, u < 8 → h < 24 → μ.1 47 (u * 24 + h) = nI (ybh τ k u h))) := by
  refine zq_go zt_X8_bedsThatFit 4 [] 4 [(0, .ref 0), (1, .int (nI k)), (2, .int (nI 0)), (3, .int (nI 0))] [] μ0 rfl trivial ?_
  exact zs_beds_l hC lk 8 0 μ0 (by omega) ⟨zq_fr.rf, hC.2.2.2.2.2.1.2, fun u h hu => absurd hu (Nat.not_lt_zero u)⟩
set_option maxRecDepth 100000 in
set_option maxHeartbeats 400000 in
theorem zs_pathsm_l {Q : zq_Post} {τ : zTd} {μ2 : zq_Me} {k v : Nat} {bits : Int32} (lk : k < ynp τ) (lv : v < 8) (hQ : zQm (ynp τ) (yR τ (ysr τ) (yub (ybd τ) k v) (yek τ) (yeh τ) (yen τ) 0 (yne τ) (yld τ)) μ2) (kk : ∀ μ : zq_Me, (zq_fr [71] μ2 μ ∧ (∀ i, i < 24 → μ.1 71 (24 * v + i) = nI (ybh τ k v i)) ∧ ∀ i, (i < 24 * v ∨ 24 * v + 24 ≤ i) → μ.1 71 i = μ2.1 71 i) → zq_Wp zn_X9_bedsBy 90 [(0, .ref 50), (1, .int (nI k)), (2, .int (nI (ybd τ k))), (3, .int bits), (4, .int (nI v))] [] μ Q) : ∀ (j h : Nat) (μ : zq_Me), h + j = 24 → (zq_fr [71] μ2 μ ∧ (∀ i, i < h → μ.1 71 (24 * v + i) = nI (ybh τ k v i)) ∧ ∀ i, (i < 24 * v ∨ 24 * v + 24 ≤ i) → μ.1 71 i = μ2.1 71 i) → zq_Wp zn_X9_bedsBy 52 [(0, .ref 50), (1, .int (nI k)), (2, .int (nI (ybd τ k))), (3, .int bits), (4, .int (nI v)), (5, .int (nI h))] [] μ Q := by
  have hnp := hQ.1
  intro j
  induction j with
  | zero =>
    rintro h μ hij hI
    obtain rfl : h = 24 := by omega
    refine zq_go zt_X9_bedsBy 3 [] (if (nI 24) ≤ (nI 24) then 90 else 59) [(0, .ref 50), (1, .int (nI k)), (2, .int (nI (ybd τ k))), (3, .int bits), (4, .int (nI v)), (5, .int (nI 24))] [] μ rfl trivial ?_
    rw [if_pos (by decide)]
    exact zq_drp [0, 1, 2, 3, 4] _ rfl (kk μ hI)
  | succ j ih =>
    rintro h μ hij ⟨hF, hA, hB⟩
    have hr : μ.1 66 (8 * h + k) = nI (ybh τ k v h) := by rw [hF.a (b := 66) (by decide)]; exact (hQ.2.2 k h lk (by omega)).1
    refine zq_go zt_X9_bedsBy 3 [] (if (nI 24) ≤ (nI h) then 90 else 59) [(0, .ref 50), (1, .int (nI k)), (2, .int (nI (ybd τ k))), (3, .int bits), (4, .int (nI v)), (5, .int (nI h))] [] μ rfl trivial ?_
    rw [if_neg (by rw [zn_le (by omega) (by omega)]; omega)]
    refine zq_go zt_X9_bedsBy 18 [vp_in (((nI 8) * (nI h)) + (nI k)) 192, vp_in (((nI 24) * (nI v)) + (nI h)) 192] 52 [(0, .ref 50), (1, .int (nI k)), (2, .int (nI (ybd τ k))), (3, .int bits), (4, .int (nI v)), (5, .int ((nI h) + (nI 1)))] [] (zq_u1 μ 71 ((((nI 24) * (nI v)) + (nI h)).toNatClampNeg) (μ.1 66 ((((nI 8) * (nI h)) + (nI k)).toNatClampNeg))) rfl ⟨zn_in (k := (8 * h) + k) (by rw [zn_mul 8 h, zn_add (8 * h) k]) (by omega) (by decide), ⟨zn_in (k := (24 * v) + h) (by rw [zn_mul 24 v, zn_add (24 * v) h]) (by omega) (by decide), trivial⟩⟩ ?_
    rw [zn_add h 1, zn_mul 8 h, zn_add (8 * h) k, zn_cl (n := (8 * h) + k) (by omega), hr, zn_mul 24 v, zn_add (24 * v) h, zn_cl (n := (24 * v) + h) (by omega)]
    refine ih (h + 1) _ (by omega) ⟨hF.u1 (by simp), fun i hi => ?_, fun i hi => ?_⟩
    · rw [zq_u1_rd]
      by_cases q : i = h
      · rw [if_pos (by omega), q]
      · rw [if_neg (by omega)]; exact hA i (by omega)
    · rw [zq_u1_rd, if_neg (by omega)]; exact hB i hi
set_option maxRecDepth 100000 in
set_option maxHeartbeats 400000 in
theorem zs_bedsBy_l {τ : zTd} {S : zES} {H : zSH} {μ0 : zq_Me} {k : Nat} (lk : k < ynp τ) : ∀ (j v : Nat) (μ : zq_Me), v + j = 8 → (zIm τ S H μ ∧ zq_fr zSM μ0 μ ∧ (∃ b, b < 8 ∧ zNr τ (ysr τ) (yub (ybd τ) k b) (yld τ) τ.2.2.2 0 μ) ∧ (∀ u h, u < v → h < 24 → μ.1 71 (24 * u + h) = nI (ybh τ k u h))) → zq_Wp zn_X9_bedsBy 16 [(0, .ref 50), (1, .int (nI k)), (2, .int (nI (ybd τ k))), (3, .int (nI (zm (ybe τ S k) v))), (4, .int (nI v))] [] μ (fun r μ => r = some (.int (nI (zm (ybe τ S k) 8))) ∧ zIm τ S H μ ∧ zq_fr zSM μ0 μ ∧ (∀ u h, u < 8 → h < 24 → μ.1 71 (24 * u + h) = nI (ybh τ k u h))) := by
  intro j
  induction j with
  | zero =>
    rintro v μ hij ⟨hM, hF, ⟨b0, lb0, hN⟩, hA⟩
    obtain rfl : v = 8 := by omega
    have hnp := hN.2.1.1
    refine zq_go zt_X9_bedsBy 3 [] (if (nI 8) ≤ (nI 8) then 96 else 23) [(0, .ref 50), (1, .int (nI k)), (2, .int (nI (ybd τ k))), (3, .int (nI (zm (ybe τ S k) 8))), (4, .int (nI 8))] [] μ rfl trivial ?_
    rw [if_pos (by decide)]
    refine zq_go zt_X9_bedsBy 6 [vp_in (nI k) 9] 104 [(0, .ref 50), (1, .int (nI k)), (2, .int (nI (ybd τ k))), (3, .int (nI (zm (ybe τ S k) 8))), (4, .int (nI 8))] [.int (nI (zm (ybe τ S k) 8))] (zq_u1 μ 57 ((nI k).toNatClampNeg) (nI (ybd τ k))) rfl ⟨zn_in (k := k) rfl (by omega) (by decide), trivial⟩ ?_
    rw [zn_cl (n := k) (by omega)]
    obtain ⟨μ4, hμ4⟩ : ∃ k9 : zq_Me, k9 = (zq_u1 μ 57 k (nI (ybd τ k))) := ⟨_, rfl⟩
    rw [← hμ4]
    have f4 : zq_fr [57] μ μ4 := by rw [hμ4]; exact zq_fr.rf.u1 (by simp)
    have hI : zIm τ S H μ4 := hM.kp f4 (by decide) (fun i hi => by rw [f4.a (b := 50) (by decide)])
    have hF4 : zq_fr zSM μ0 μ4 := hF.tr (f4.wk (by simp [zSM]))
    exact zq_retn zt_X9_bedsBy rfl rfl (⟨rfl, hI, hF4, fun u h hu hh => by rw [f4.a (b := 71) (by decide)]; exact hA u h hu hh⟩)
  | succ j ih =>
    rintro v μ hij ⟨hM, hF, ⟨b0, lb0, hN⟩, hA⟩
    have hnp := hN.2.1.1
    have hl9 := hM.2.1.2.2
    refine zq_go zt_X9_bedsBy 3 [] (if (nI 8) ≤ (nI v) then 96 else 23) [(0, .ref 50), (1, .int (nI k)), (2, .int (nI (ybd τ k))), (3, .int (nI (zm (ybe τ S k) v))), (4, .int (nI v))] [] μ rfl trivial ?_
    rw [if_neg (by rw [zn_le (by omega) (by omega)]; omega)]
    refine zq_go zt_X9_bedsBy 5 [vp_in (nI k) 9] 31 [(0, .ref 50), (1, .int (nI k)), (2, .int (nI (ybd τ k))), (3, .int (nI (zm (ybe τ S k) v))), (4, .int (nI v))] [] (zq_u1 μ 57 ((nI k).toNatClampNeg) (nI v)) rfl ⟨zn_in (k := k) rfl (by omega) (by decide), trivial⟩ ?_
    rw [zn_cl (n := k) (by omega)]
    obtain ⟨μ1, hμ1⟩ : ∃ k9 : zq_Me, k9 = (zq_u1 μ 57 k (nI v)) := ⟨_, rfl⟩
    rw [← hμ1]
    have f1 : zq_fr [57] μ μ1 := by rw [hμ1]; exact zq_fr.rf.u1 (by simp)
    have hM1 : zIm τ S H μ1 := hM.kp f1 (by decide) (fun i hi => by rw [f1.a (b := 50) (by decide)])
    have hN1 : zNr τ (ysr τ) (yub (ybd τ) k v) (yld τ) τ.2.2.2 0 μ1 := by
      obtain ⟨d, p, l, e, w9⟩ := hN
      have q50 : μ1.1 50 = μ.1 50 := f1.a (by decide)
      exact ⟨d.fr f1 (by decide), p.bd (by omega) (by rw [q50]) (f1.a (by decide)) (f1.a (by decide)) (fun q => by rw [hμ1, zq_u1_rd]), by rw [q50]; exact l, e.fr f1 (by decide), by rw [q50]; exact w9⟩
    refine zq_go zt_X9_bedsBy 2 [] 33 [(0, .ref 50), (1, .int (nI k)), (2, .int (nI (ybd τ k))), (3, .int (nI (zm (ybe τ S k) v))), (4, .int (nI v))] [.ref 50, .int (nI (zm (ybe τ S k) v))] μ1 rfl trivial ?_
    refine zq_call zt_X9_bedsBy [.ref 50] [.int (nI (zm (ybe τ S k) v))] (show zq_Wp zn_X9_isSeen 0 [(0, .ref 50)] [] μ1 (fun r μ2 => r = some (.int (zB (ybe τ S k v))) ∧ zIm τ S H μ2 ∧ zq_fr [50, 64, 65, 66] μ1 μ2 ∧ zNr τ (ysr τ) (yub (ybd τ) k v) (yld τ) τ.2.2.2 0 μ2 ∧ zQm (ynp τ) (yR τ (ysr τ) (yub (ybd τ) k v) (yek τ) (yeh τ) (yen τ) 0 (yne τ) (yld τ)) μ2) from zs_isSeen hM1 hN1 hl9 (by decide)) rfl rfl ?_
    rintro _ μ2 ⟨rfl, hM2, f2, hN2, q2⟩
    have hp71 : μ2.1 71 = μ.1 71 := by rw [f2.a (b := 71) (by decide), f1.a (b := 71) (by decide)]
    refine zq_go zt_X9_bedsBy 1 [] (if (zB (ybe τ S k v)) = 0 then 46 else 39) [(0, .ref 50), (1, .int (nI k)), (2, .int (nI (ybd τ k))), (3, .int (nI (zm (ybe τ S k) v))), (4, .int (nI v))] [.int (nI (zm (ybe τ S k) v))] μ2 rfl trivial ?_
    refine zq_ite (fun h37 => ?_) (fun h37 => ?_)
    · have h7 := zB_f h37
      refine zq_go zt_X9_bedsBy 5 [] 52 [(0, .ref 50), (1, .int (nI k)), (2, .int (nI (ybd τ k))), (3, .int ((nI (zm (ybe τ S k) v)) ||| (nI 0))), (4, .int (nI v)), (5, .int (nI 0))] [] μ2 rfl trivial ?_
      rw [zn_or, Nat.or_zero]
      refine zs_pathsm_l lk (show v < 8 by omega) q2 (fun μ3 h3 => ?_) 24 0 μ2 (by omega) ⟨zq_fr.rf, fun i hi => absurd hi (Nat.not_lt_zero i), fun i _ => rfl⟩
      refine zq_go zt_X9_bedsBy 2 [] 16 [(0, .ref 50), (1, .int (nI k)), (2, .int (nI (ybd τ k))), (3, .int (nI (zm (ybe τ S k) v))), (4, .int ((nI v) + (nI 1)))] [] μ3 rfl trivial ?_
      rw [zn_add v 1]
      have g3 : zq_fr [71] μ2 μ3 := h3.1
      have h9 := ih (v + 1) μ3 (by omega) ⟨hM2.kp g3 (by decide) (fun i hi => by rw [g3.a (b := 50) (by decide)]), hF.tr ((f1.wk (by simp [zSM])).tr ((f2.wk (by simp +contextual [zSM])).tr (g3.wk (by simp [zSM])))), ⟨v, by omega, hN2.sl (fun i hi => by rw [g3.a (b := 50) (by decide)]) (fun b hb => g3.a (by simp at hb ⊢; omega))⟩, fun u h hu hh => by
        by_cases q : u = v
        · rw [q]; exact h3.2.1 h hh
        · rw [h3.2.2 (24 * u + h) (by omega), hp71]; exact hA u h (by omega) hh⟩
      rw [zm_f h7] at h9
      exact h9
    · have h7 := zB_t h37
      refine zq_go zt_X9_bedsBy 4 [] 47 [(0, .ref 50), (1, .int (nI k)), (2, .int (nI (ybd τ k))), (3, .int (nI (zm (ybe τ S k) v))), (4, .int (nI v))] [.int ((nI 1) <<< ((nI v) &&& 31)), .int (nI (zm (ybe τ S k) v))] μ2 rfl trivial ?_
      refine zq_go zt_X9_bedsBy 4 [] 52 [(0, .ref 50), (1, .int (nI k)), (2, .int (nI (ybd τ k))), (3, .int ((nI (zm (ybe τ S k) v)) ||| ((nI 1) <<< ((nI v) &&& 31)))), (4, .int (nI v)), (5, .int (nI 0))] [] μ2 rfl trivial ?_
      rw [zn_1shl (show v < 31 by omega), zn_or]
      refine zs_pathsm_l lk (show v < 8 by omega) q2 (fun μ3 h3 => ?_) 24 0 μ2 (by omega) ⟨zq_fr.rf, fun i hi => absurd hi (Nat.not_lt_zero i), fun i _ => rfl⟩
      refine zq_go zt_X9_bedsBy 2 [] 16 [(0, .ref 50), (1, .int (nI k)), (2, .int (nI (ybd τ k))), (3, .int (nI (zm (ybe τ S k) v ||| 2 ^ v))), (4, .int ((nI v) + (nI 1)))] [] μ3 rfl trivial ?_
      rw [zn_add v 1]
      have g3 : zq_fr [71] μ2 μ3 := h3.1
      have h9 := ih (v + 1) μ3 (by omega) ⟨hM2.kp g3 (by decide) (fun i hi => by rw [g3.a (b := 50) (by decide)]), hF.tr ((f1.wk (by simp [zSM])).tr ((f2.wk (by simp +contextual [zSM])).tr (g3.wk (by simp [zSM])))), ⟨v, by omega, hN2.sl (fun i hi => by rw [g3.a (b := 50) (by decide)]) (fun b hb => g3.a (by simp at hb ⊢; omega))⟩, fun u h hu hh => by
        by_cases q : u = v
        · rw [q]; exact h3.2.1 h hh
        · rw [h3.2.2 (24 * u + h) (by omega), hp71]; exact hA u h (by omega) hh⟩
      rw [zm_t h7] at h9
      exact h9
set_option maxRecDepth 100000 in
set_option maxHeartbeats 400000 in
theorem zs_bedsBy {τ : zTd} {S : zES} {H : zSH} {μ0 : zq_Me} {k : Nat} (lk : k < ynp τ) (hM : zIm τ S H μ0) : zq_Wp zn_X9_bedsBy 0 [(0, .ref 50), (1, .int (nI k))] [] μ0 (fun r μ => r = some (.int (nI (zm (ybe τ S k) 8))) ∧ zIm τ S H μ ∧ zq_fr zSM μ0 μ ∧ (∀ u h, u < 8 → h < 24 → μ.1 71 (24 * u + h) = nI (ybh τ k u h))) := by
  refine zq_go zt_X9_bedsBy 1 [] 1 [(0, .ref 50), (1, .int (nI k))] [.ref 50] μ0 rfl trivial ?_
  refine zq_call zt_X9_bedsBy [.ref 50] [] (zs_asTold hM) rfl rfl ?_
  rintro _ ν1 ⟨rfl, n1, k1, o1⟩
  have hnp := o1.2.1.1
  obtain ⟨c1, c2, c3, c4, c5, c6⟩ := o1.2.1.2.2 k lk
  refine zq_go zt_X9_bedsBy 9 [vp_in (nI k) 9] 16 [(0, .ref 50), (1, .int (nI k)), (2, .int (ν1.1 57 ((nI k).toNatClampNeg))), (3, .int (nI 0)), (4, .int (nI 0))] [] ν1 rfl ⟨zn_in (k := k) rfl (by omega) (by decide), trivial⟩ ?_
  rw [zn_cl (n := k) (by omega), c5]
  exact zs_bedsBy_l lk 8 0 ν1 (by omega) ⟨n1, k1, ⟨ybd τ k, c6, by rw [yub_self]; exact o1.r⟩, fun u h hu => absurd hu (Nat.not_lt_zero u)⟩
def yWas (τ : zTd) (S : zES) (k w : Nat) : Nat := if w = 0 then zm (yso τ S k) 3 else zm (ybe τ S k) 8
set_option maxRecDepth 100000 in
set_option maxHeartbeats 400000 in
theorem zs_was {τ : zTd} {S : zES} {H : zSH} {μ0 : zq_Me} {k w : Nat} (lk : k < ynp τ) (lw : w ≤ 1) (hC : zIc τ S H μ0) : zq_Wp zn_X8_was 0 [(0, .ref 0), (1, .int (nI k)), (2, .int (nI w))] [] μ0 (zRc (.int (nI (yWas τ S k w))) τ S H μ0) := by
  have hnp := hC.2.1.2.1
  refine zq_go zt_X8_was 2 [] 2 [(0, .ref 0), (1, .int (nI k)), (2, .int (nI w))] [.int (nI k), .ref 0] μ0 rfl trivial ?_
  refine zq_call zt_X8_was [.ref 0, .int (nI k)] [] (zs_isPerson (nI k) hC) rfl rfl ?_
  rintro _ _ ⟨rfl, rfl⟩
  refine zq_go zt_X8_was 1 [] (if (zb (0 ≤ nI k ∧ nI k ≤ nI (ynp τ) - nI 1)) = 0 then 17 else 8) [(0, .ref 0), (1, .int (nI k)), (2, .int (nI w))] [] μ0 rfl trivial ?_
  rw [if_neg (zb_n (yip (by omega) (by omega)))]
  refine zq_go zt_X8_was 3 [] 11 [(0, .ref 0), (1, .int (nI k)), (2, .int (nI w))] [.int (nI 1), .int (nI 0), .int (nI w)] μ0 rfl trivial ?_
  refine zq_call zt_X8_was [.int (nI w), .int (nI 0), .int (nI 1)] [] (zs_within (nI w) (nI 0) (nI 1) μ0) rfl rfl ?_
  rintro _ _ ⟨rfl, rfl⟩
  refine zq_go zt_X8_was 1 [] (if ¬ (zb (0 ≤ nI w ∧ nI w ≤ nI 1)) = 0 then 20 else 17) [(0, .ref 0), (1, .int (nI k)), (2, .int (nI w))] [] μ0 rfl trivial ?_
  rw [if_pos (zb_n (yin (by omega) (by decide)))]
  refine zq_go zt_X8_was 2 [] (if ¬ (nI w) = 0 then 32 else 24) [(0, .ref 0), (1, .int (nI k)), (2, .int (nI w))] [] μ0 rfl trivial ?_
  refine zq_ite (fun h12 => ?_) (fun h12 => ?_)
  · rw [show (0 : Int32) = nI 0 from rfl, zn_eq (by omega) (by omega)] at h12
    have e0 : yWas τ S k w = zm (ybe τ S k) 8 := if_neg (by omega)
    rw [e0]
    refine zq_go zt_X8_was 2 [] 34 [(0, .ref 0), (1, .int (nI k)), (2, .int (nI w))] [.int (nI k), .ref 0] μ0 rfl trivial ?_
    refine zq_call zt_X8_was [.ref 0, .int (nI k)] [] (zs_beds lk hC) rfl rfl ?_
    rintro _ μ1 ⟨rfl, hC1, f1, _⟩
    exact zq_retn zt_X8_was rfl rfl (⟨rfl, hC1, f1⟩)
  · rw [show (0 : Int32) = nI 0 from rfl, zn_eq (by omega) (by omega)] at h12
    have e0 : yWas τ S k w = zm (yso τ S k) 3 := if_pos (by omega)
    rw [e0]
    refine zq_go zt_X8_was 2 [] 26 [(0, .ref 0), (1, .int (nI k)), (2, .int (nI w))] [.int (nI k), .ref 0] μ0 rfl trivial ?_
    refine zq_call zt_X8_was [.ref 0, .int (nI k)] [] (zs_sorts lk hC) rfl rfl ?_
    rintro _ μ1 ⟨rfl, hC1, f1⟩
    refine zq_go zt_X8_was 1 [] 37 [(0, .ref 0), (1, .int (nI k)), (2, .int (nI w))] [.int (nI (zm (yso τ S k) 3))] μ1 rfl trivial ?_
    exact zq_retn zt_X8_was rfl rfl (⟨rfl, hC1, f1⟩)
set_option maxRecDepth 100000 in
set_option maxHeartbeats 400000 in
theorem zs_wasm {τ : zTd} {S : zES} {H : zSH} {μ0 : zq_Me} {k w : Nat} (lk : k < ynp τ) (lw : w ≤ 1) (hM : zIm τ S H μ0) : zq_Wp zn_X9_was 0 [(0, .ref 50), (1, .int (nI k)), (2, .int (nI w))] [] μ0 (zRm' (.int (nI (yWas τ S k w))) τ S H μ0) := by
  refine zq_go zt_X9_was 2 [] 2 [(0, .ref 50), (1, .int (nI k)), (2, .int (nI w))] [.int (nI k), .ref 50] μ0 rfl trivial ?_
  refine zq_call zt_X9_was [.ref 50, .int (nI k)] [] (zs_isPersonm (nI k) hM) rfl rfl ?_
  rintro _ ν0 ⟨rfl, n0, k0, d0, p0⟩
  have hnp := p0.1
  refine zq_go zt_X9_was 1 [] (if (zb (0 ≤ (nI k) ∧ (nI k) ≤ nI (ynp τ) - nI 1)) = 0 then 35 else 8) [(0, .ref 50), (1, .int (nI k)), (2, .int (nI w))] [] ν0 rfl trivial ?_
  rw [if_neg (zb_n (yip lk (by omega)))]
  refine zq_go zt_X9_was 1 [] 9 [(0, .ref 50), (1, .int (nI k)), (2, .int (nI w))] [.int (nI w)] ν0 rfl trivial ?_
  refine zq_call zt_X9_was [.int (nI w)] [] (zs_isTwom (nI w) ν0) rfl rfl ?_
  rintro _ _ ⟨rfl, rfl⟩
  refine zq_go zt_X9_was 1 [] (if (zb (0 ≤ (nI w) ∧ (nI w) ≤ nI 1)) = 0 then 35 else 15) [(0, .ref 50), (1, .int (nI k)), (2, .int (nI w))] [] ν0 rfl trivial ?_
  rw [if_neg (zb_n (yin (by omega) (by decide)))]
  refine zq_go zt_X9_was 2 [] (if ¬ (nI w) = 0 then 27 else 19) [(0, .ref 50), (1, .int (nI k)), (2, .int (nI w))] [] ν0 rfl trivial ?_
  refine zq_ite (fun h12 => ?_) (fun h12 => ?_)
  · rw [show (0 : Int32) = nI 0 from rfl, zn_eq (by omega) (by omega)] at h12
    have e0 : yWas τ S k w = zm (ybe τ S k) 8 := if_neg (by omega)
    rw [e0]
    refine zq_go zt_X9_was 2 [] 29 [(0, .ref 50), (1, .int (nI k)), (2, .int (nI w))] [.int (nI k), .ref 50] ν0 rfl trivial ?_
    refine zq_call zt_X9_was [.ref 50, .int (nI k)] [] (zs_bedsBy lk n0) rfl rfl ?_
    rintro _ ν1 ⟨rfl, n1, k1, _⟩
    refine zq_go zt_X9_was 1 [] 37 [(0, .ref 50), (1, .int (nI k)), (2, .int (nI w))] [.int (nI (zm (ybe τ S k) 8))] ν1 rfl trivial ?_
    exact zq_retn zt_X9_was rfl rfl (⟨rfl, n1, k0.tr k1⟩)
  · rw [show (0 : Int32) = nI 0 from rfl, zn_eq (by omega) (by omega)] at h12
    have e0 : yWas τ S k w = zm (yso τ S k) 3 := if_pos (by omega)
    rw [e0]
    refine zq_go zt_X9_was 2 [] 21 [(0, .ref 50), (1, .int (nI k)), (2, .int (nI w))] [.int (nI k), .ref 50] ν0 rfl trivial ?_
    refine zq_call zt_X9_was [.ref 50, .int (nI k)] [] (zs_sortsBy lk n0) rfl rfl ?_
    rintro _ ν1 ⟨rfl, n1, k1⟩
    refine zq_go zt_X9_was 1 [] 37 [(0, .ref 50), (1, .int (nI k)), (2, .int (nI w))] [.int (nI (zm (yso τ S k) 3))] ν1 rfl trivial ?_
    exact zq_retn zt_X9_was rfl rfl (⟨rfl, n1, k0.tr k1⟩)
set_option maxRecDepth 100000 in
set_option maxHeartbeats 400000 in
theorem zs_was_b {τ : zTd} {S : zES} {H : zSH} {μ0 : zq_Me} (v1 v2 : Int32) (hg : ¬ ((0 ≤ v1 ∧ v1 ≤ nI (ynp τ) - nI 1) ∧ (0 ≤ v2 ∧ v2 ≤ nI 1))) (hC : zIc τ S H μ0) : zq_Wp zn_X8_was 0 [(0, .ref 0), (1, .int v1), (2, .int v2)] [] μ0 (zRc (.int (-2)) τ S H μ0) := by
  refine zq_go zt_X8_was 2 [] 2 [(0, .ref 0), (1, .int v1), (2, .int v2)] [.int v1, .ref 0] μ0 rfl trivial ?_
  refine zq_call zt_X8_was [.ref 0, .int v1] [] (zs_isPerson v1 hC) rfl rfl ?_
  rintro _ _ ⟨rfl, rfl⟩
  refine zq_go zt_X8_was 1 [] (if (zb (0 ≤ v1 ∧ v1 ≤ nI (ynp τ) - nI 1)) = 0 then 17 else 8) [(0, .ref 0), (1, .int v1), (2, .int v2)] [] μ0 rfl trivial ?_
  refine zq_ite (fun h4 => ?_) (fun h4 => ?_)
  · refine zq_go zt_X8_was 1 [] 19 [(0, .ref 0), (1, .int v1), (2, .int v2)] [.int (-2)] μ0 rfl trivial ?_
    exact zq_retn zt_X8_was rfl rfl (⟨rfl, hC, zq_fr.rf⟩)
  · have g0 := zb_p h4
    refine zq_go zt_X8_was 3 [] 11 [(0, .ref 0), (1, .int v1), (2, .int v2)] [.int (nI 1), .int (nI 0), .int v2] μ0 rfl trivial ?_
    refine zq_call zt_X8_was [.int v2, .int (nI 0), .int (nI 1)] [] (zs_within v2 (nI 0) (nI 1) μ0) rfl rfl ?_
    rintro _ _ ⟨rfl, rfl⟩
    refine zq_go zt_X8_was 1 [] (if ¬ (zb (0 ≤ v2 ∧ v2 ≤ nI 1)) = 0 then 20 else 17) [(0, .ref 0), (1, .int v1), (2, .int v2)] [] μ0 rfl trivial ?_
    refine zq_ite (fun h12 => ?_) (fun h12 => ?_)
    · have g1 := zb_p h12
      exact absurd ⟨g0, g1⟩ hg
    · refine zq_go zt_X8_was 1 [] 19 [(0, .ref 0), (1, .int v1), (2, .int v2)] [.int (-2)] μ0 rfl trivial ?_
      exact zq_retn zt_X8_was rfl rfl (⟨rfl, hC, zq_fr.rf⟩)
set_option maxRecDepth 100000 in
set_option maxHeartbeats 400000 in
theorem zs_wasm_b {τ : zTd} {S : zES} {H : zSH} {μ0 : zq_Me} (v1 v2 : Int32) (hg : ¬ ((0 ≤ v1 ∧ v1 ≤ nI (ynp τ) - nI 1) ∧ (0 ≤ v2 ∧ v2 ≤ nI 1))) (hM : zIm τ S H μ0) : zq_Wp zn_X9_was 0 [(0, .ref 50), (1, .int v1), (2, .int v2)] [] μ0 (zRm' (.int (-2)) τ S H μ0) := by
  refine zq_go zt_X9_was 2 [] 2 [(0, .ref 50), (1, .int v1), (2, .int v2)] [.int v1, .ref 50] μ0 rfl trivial ?_
  refine zq_call zt_X9_was [.ref 50, .int v1] [] (zs_isPersonm v1 hM) rfl rfl ?_
  rintro _ μ1 ⟨rfl, m1, f1, d1, p1⟩
  refine zq_go zt_X9_was 1 [] (if (zb (0 ≤ v1 ∧ v1 ≤ nI (ynp τ) - nI 1)) = 0 then 35 else 8) [(0, .ref 50), (1, .int v1), (2, .int v2)] [] μ1 rfl trivial ?_
  refine zq_ite (fun h4 => ?_) (fun h4 => ?_)
  · refine zq_go zt_X9_was 1 [] 37 [(0, .ref 50), (1, .int v1), (2, .int v2)] [.int (-2)] μ1 rfl trivial ?_
    exact zq_retn zt_X9_was rfl rfl (⟨rfl, m1, f1⟩)
  · have g0 := zb_p h4
    refine zq_go zt_X9_was 1 [] 9 [(0, .ref 50), (1, .int v1), (2, .int v2)] [.int v2] μ1 rfl trivial ?_
    refine zq_call zt_X9_was [.int v2] [] (zs_isTwom v2 μ1) rfl rfl ?_
    rintro _ _ ⟨rfl, rfl⟩
    refine zq_go zt_X9_was 1 [] (if (zb (0 ≤ v2 ∧ v2 ≤ nI 1)) = 0 then 35 else 15) [(0, .ref 50), (1, .int v1), (2, .int v2)] [] μ1 rfl trivial ?_
    refine zq_ite (fun h12 => ?_) (fun h12 => ?_)
    · refine zq_go zt_X9_was 1 [] 37 [(0, .ref 50), (1, .int v1), (2, .int v2)] [.int (-2)] μ1 rfl trivial ?_
      exact zq_retn zt_X9_was rfl rfl (⟨rfl, m1, f1⟩)
    · have g1 := zb_p h12
      exact absurd ⟨g0, g1⟩ hg
theorem zo_was (v1 v2 : Int32) : zop zn_X8_was [(0, .ref 0), (1, .int v1), (2, .int v2)] zn_X9_was [(0, .ref 50), (1, .int v1), (2, .int v2)] := by
  intro τ S H μ hC hM
  by_cases hg : (0 ≤ v1 ∧ v1 ≤ nI (ynp τ) - nI 1) ∧ (0 ≤ v2 ∧ v2 ≤ nI 1)
  · have h9 := hC.2.1.2.1
    obtain ⟨k, lk, rfl⟩ := ypx (by omega) hg.1
    obtain ⟨w, lw, rfl⟩ := yix (by decide) hg.2
    exact ⟨_, τ, S, H, zs_was lk lw hC, fun _ h => zs_wasm lk lw h⟩
  · exact ⟨_, τ, S, H, zs_was_b v1 v2 hg hC, fun _ h => zs_wasm_b v1 v2 hg h⟩
