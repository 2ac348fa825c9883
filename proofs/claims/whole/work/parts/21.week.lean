/-! ===== a whole week ===== -/
def zck (srt : Nat → Nat) (np n : Nat) : Nat := if zf (fun p => decide (n ≤ p) && decide (srt p = 1)) np < np then zf (fun p => decide (n ≤ p) && decide (srt p = 1)) np + 1 else 0
def zcx (srt : Nat → Nat) (np : Nat) : Nat := zck srt np 0
theorem zck_le (srt : Nat → Nat) (np n : Nat) : zck srt np n ≤ np := by unfold zck; split <;> omega
theorem zck_np (srt : Nat → Nat) (np : Nat) : zck srt np np = 0 := by
  unfold zck
  rw [if_neg]
  rw [zf_none (fun i hi => by rw [decide_eq_false (by omega)]; rfl)]
  omega
theorem zck_t {srt : Nat → Nat} {np n : Nat} (hn : n < np) (h : srt n = 1) : zck srt np n = n + 1 := by
  have he : zf (fun p => decide (n ≤ p) && decide (srt p = 1)) np = n := zf_eq hn (by simp [h]) (fun i hi => by simp; omega)
  unfold zck
  rw [he, if_pos hn]
theorem zck_f {srt : Nat → Nat} {np n : Nat} (h : ¬ srt n = 1) : zck srt np n = zck srt np (n + 1) := by
  have he : zf (fun p => decide (n ≤ p) && decide (srt p = 1)) np = zf (fun p => decide (n + 1 ≤ p) && decide (srt p = 1)) np := zf_congr (fun i _ => by
    by_cases hi : i = n
    · subst hi; simp [h]
    · have : (n ≤ i) ↔ (n + 1 ≤ i) := by omega
      simp [this])
  unfold zck
  rw [he]
theorem zcx_spec {srt : Nat → Nat} {np c : Nat} (h : zcx srt np = c + 1) : c < np ∧ srt c = 1 := by
  unfold zcx zck at h
  split at h
  · rename_i hl
    have h1 := zf_hit _ _ hl
    have hc : c = zf (fun p => decide (0 ≤ p) && decide (srt p = 1)) np := by omega
    rw [← hc] at h1 hl
    simp at h1
    exact ⟨hl, h1⟩
  · exact absurd h.symm (Nat.succ_ne_zero c)
def zc0 (N : Nat → Nat → Nat → Nat) (srt stt bed hm : Nat → Nat) (ld c : Nat) : Nat → Nat := fun i => (zw N (srt c) (stt c) (bed c) hm false (fun _ => 0) ld (i + 1)).1
/-- the child's way, where there is a child -/
def zcR (N : Nat → Nat → Nat → Nat) (srt stt bed hm : Nat → Nat) (ld np : Nat) : Nat → Nat := fun i => if zcx srt np = 0 then 0 else zc0 N srt stt bed hm ld (zcx srt np - 1) i
/-- where person p is behind hour h -/
def zR (N : Nat → Nat → Nat → Nat) (srt stt bed hm : Nat → Nat) (ld np p h : Nat) : Nat := (zw N (srt p) (stt p) (bed p) hm (decide (¬ zcx srt np = 0)) (zcR N srt stt bed hm ld np) ld (h + 1)).1
theorem zw_ind {N : Nat → Nat → Nat → Nat} {sort start bed : Nat} {hm : Nat → Nat} {hc hc' : Bool} {cr cr' : Nat → Nat} {ld : Nat} (h2 : sort ≠ 2) (hs : sort ≤ 2) : ∀ h, zw N sort start bed hm hc cr ld h = zw N sort start bed hm hc' cr' ld h
  | 0 => rfl
  | h + 1 => by
    have ih := zw_ind (N := N) (start := start) (bed := bed) (hm := hm) (hc := hc) (hc' := hc') (cr := cr) (cr' := cr') (ld := ld) h2 hs h
    have ha : ∀ tb, zw_aim sort start bed hm hc cr ld h tb = zw_aim sort start bed hm hc' cr' ld h tb := by
      intro tb
      unfold zw_aim
      by_cases h0 : sort = 0
      · rw [if_pos h0, if_pos h0]
      · have h1 : sort = 1 := by omega
        rw [if_neg h0, if_neg h0, if_pos h1, if_pos h1]
    show (_, _) = (_, _)
    rw [ih, ha]
theorem zR_ind {N : Nat → Nat → Nat → Nat} {srt stt bed hm : Nat → Nat} {ld np p : Nat} (h2 : srt p ≠ 2) (hs : srt p ≤ 2) (hc : Bool) (cr : Nat → Nat) (h : Nat) : (zw N (srt p) (stt p) (bed p) hm hc cr ld (h + 1)).1 = zR N srt stt bed hm ld np p h := by
  unfold zR
  rw [zw_ind (hc' := decide (¬ zcx srt np = 0)) (cr' := zcR N srt stt bed hm ld np) h2 hs]
theorem zc0_lt {N : Nat → Nat → Nat → Nat} {srt stt bed hm : Nat → Nat} {ld np c : Nat} (hN : ∀ h t x, h < 24 → t < 8 → x < 8 → N h t x < 8) (hP : ∀ p, p < np → srt p ≤ 2 ∧ stt p < 8 ∧ bed p < 8) (hh : ∀ h, h < 24 → hm h ≤ 8) (hc : c < np) : ∀ h, h < 24 → zc0 N srt stt bed hm ld c h < 8 := fun h hl =>
  (zw_lt hN (hP c hc).2.1 (hP c hc).2.2 hh (fun _ _ => by decide) (h + 1) (by omega)).1
theorem zcR_lt {N : Nat → Nat → Nat → Nat} {srt stt bed hm : Nat → Nat} {ld np : Nat} (hN : ∀ h t x, h < 24 → t < 8 → x < 8 → N h t x < 8) (hP : ∀ p, p < np → srt p ≤ 2 ∧ stt p < 8 ∧ bed p < 8) (hh : ∀ h, h < 24 → hm h ≤ 8) : ∀ h, h < 24 → zcR N srt stt bed hm ld np h < 8 := by
  intro h hl
  unfold zcR
  by_cases hz : zcx srt np = 0
  · rw [if_pos hz]; decide
  · rw [if_neg hz]; exact zc0_lt hN hP hh (zcx_spec (srt := srt) (np := np) (c := zcx srt np - 1) (by omega)).1 h hl
theorem zcR_c {N : Nat → Nat → Nat → Nat} {srt stt bed hm : Nat → Nat} {ld np c : Nat} (h : zcx srt np = c + 1) (i : Nat) : zcR N srt stt bed hm ld np i = zR N srt stt bed hm ld np c i := by
  have hc := (zcx_spec h).2
  rw [← zR_ind (by omega) (by omega) false (fun _ => 0) i]
  unfold zcR
  rw [if_neg (by omega), h]
  rfl
theorem zR_lt {N : Nat → Nat → Nat → Nat} {srt stt bed hm : Nat → Nat} {ld np p : Nat} (hN : ∀ h t x, h < 24 → t < 8 → x < 8 → N h t x < 8) (hP : ∀ p, p < np → srt p ≤ 2 ∧ stt p < 8 ∧ bed p < 8) (hh : ∀ h, h < 24 → hm h ≤ 8) (hp : p < np) {h : Nat} (hl : h < 24) : zR N srt stt bed hm ld np p h < 8 :=
  (zw_lt hN (hP p hp).2.1 (hP p hp).2.2 hh (zcR_lt hN hP hh) (h + 1) (by omega)).1
def zNx (nd : Nat) (o1 o2 S : Nat → Nat) : Nat → Nat → Nat → Nat := fun h t x => zg_n (zg_adj o1 o2 (S h) nd) t x
theorem zNx_lt {nd : Nat} {o1 o2 S : Nat → Nat} : ∀ h t x, h < 24 → t < 8 → x < 8 → zNx nd o1 o2 S h t x < 8 := fun _ _ _ _ _ hx => zg_n_lt hx
def zHm (ek eh en : Nat → Nat) (wo ne : Nat) : Nat → Nat := fun h => (zh ek eh en wo ne (h + 1)).1
def zSh (ek eh en : Nat → Nat) (wo ne : Nat) : Nat → Nat := fun h => (zh ek eh en wo ne (h + 1)).2
theorem zHm_0 {ek eh en : Nat → Nat} {wo ne : Nat} : ∀ h i, i ≤ h → h < 24 → zHm ek eh en wo ne h = 0 → zHm ek eh en wo ne i = 0 := fun h i hi _ hz => zh_0 (by omega) hz
set_option maxRecDepth 100000 in
set_option maxHeartbeats 4000000 in
theorem zs_least_l {Q : zq_Post} {np : Nat} {srt stt bed : Nat → Nat} {μ : zq_Me} (hP : zPm np srt stt bed μ) (kk : zq_Wp zn_X9_leastChild 35 [(1, .int (zdn (zcx srt np)))] [] μ Q) : ∀ (n : Nat), n ≤ np → zq_Wp zn_X9_leastChild 9 [(0, .ref 50), (1, .int (zdn (zck srt np n))), (2, .int (zdn n))] [] μ Q := by
  intro n
  induction n with
  | zero =>
    intro hn
    refine zq_go zt_X9_leastChild 2 [] (if (zdn 0) < 0 then 35 else 13) [(0, .ref 50), (1, .int (zdn (zck srt np 0))), (2, .int (zdn 0))] [] μ rfl trivial ?_
    rw [if_pos (zdn_neg)]
    exact zq_drp [1] [(1, .int (zdn (zcx srt np)))] rfl kk
  | succ n ih =>
    intro hn
    have hn9 := hP.1
    obtain ⟨q1, hs2, -⟩ := hP.2.2 n (by omega)
    show zq_Wp zn_X9_leastChild 9 [(0, .ref 50), (1, .int (zdn (zck srt np (n + 1)))), (2, .int (nI n))] [] μ Q
    refine zq_go zt_X9_leastChild 2 [] (if (nI n) < 0 then 35 else 13) [(0, .ref 50), (1, .int (zdn (zck srt np (n + 1)))), (2, .int (nI n))] [] μ rfl trivial ?_
    rw [if_neg (zn_notneg (by omega))]
    refine zq_go zt_X9_leastChild 6 [vp_in (nI n) 9] (if ¬ (μ.1 55 ((nI n).toNatClampNeg)) = (nI 1) then 27 else 23) [(0, .ref 50), (1, .int (zdn (zck srt np (n + 1)))), (2, .int (nI n))] [] μ rfl ⟨zn_in (k := n) rfl (by omega) (by decide), trivial⟩ ?_
    rw [zn_cl (n := n) (by omega), q1]
    refine zq_ite (fun h16 => ?_) (fun h16 => ?_)
    · have h9 : ¬ srt n = 1 := by
        rw [zn_eq (by omega) (by decide)] at h16
        exact h16
      refine zq_go zt_X9_leastChild 4 [] 9 [(0, .ref 50), (1, .int (zdn (zck srt np (n + 1)))), (2, .int ((nI n) + (-1)))] [] μ rfl trivial ?_
      rw [zdn_dec, ← zck_f h9]
      exact ih (by omega)
    · have h9 : srt n = 1 := by
        rw [zn_eq (by omega) (by decide)] at h16
        omega
      refine zq_go zt_X9_leastChild 2 [] 28 [(0, .ref 50), (1, .int (zdn (zck srt np (n + 1)))), (2, .int (nI n))] [.int (nI n)] μ rfl trivial ?_
      refine zq_go zt_X9_leastChild 3 [] 9 [(0, .ref 50), (1, .int (nI n)), (2, .int ((nI n) + (-1)))] [] μ rfl trivial ?_
      have ih9 := ih (by omega)
      rw [zck_t (by omega) h9] at ih9
      rw [zdn_dec]
      exact ih9
set_option maxRecDepth 100000 in
set_option maxHeartbeats 4000000 in
theorem zs_least {np : Nat} {srt stt bed : Nat → Nat} {μ : zq_Me} (hP : zPm np srt stt bed μ) : zq_Wp zn_X9_leastChild 0 [(0, .ref 50)] [] μ (zq_pi (zdn (zcx srt np)) μ) := by
  refine zq_go zt_X9_leastChild 7 [] 9 [(0, .ref 50), (1, .int (-1)), (2, .int ((μ.1 50 5) - (nI 1)))] [] μ rfl trivial ?_
  rw [hP.2.1]
  rw [zdn_sub]
  have h9 := zs_least_l (Q := zq_pi (zdn (zcx srt np)) μ) hP (by
    refine zq_go zt_X9_leastChild 1 [] 36 [(1, .int (zdn (zcx srt np)))] [.int (zdn (zcx srt np))] μ rfl trivial ?_
    exact zq_retn zt_X9_leastChild rfl rfl ⟨rfl, rfl⟩) np (Nat.le_refl _)
  rw [zck_np] at h9
  exact h9
