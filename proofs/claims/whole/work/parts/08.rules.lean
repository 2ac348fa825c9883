/-! ===== rules for walks of the abstract machine: a straight stretch by rfl, a branch, a call, a return ===== -/
def zq_suf (pc : Nat) : List (Nat × zq_It) → List (Nat × zq_It)
  | [] => []
  | q :: r => bif Nat.beq q.1 pc then q :: r else zq_suf pc r
def zq_run : Nat → List (Nat × zq_It) → Nat → zq_Lo → List Value → zq_Me → Option zq_Rs
  | 0, _, pc, lo, st, μ => some ([], pc, lo, st, μ)
  | _ + 1, [], _, _, _, _ => none
  | n + 1, (q, .inl f) :: r, pc, lo, st, μ => bif Nat.beq q pc then
      (match f lo st μ with
      | some (P, pc', lo', st', μ') => match zq_run n r pc' lo' st' μ' with
        | some (P2, y) => some (P ++ P2, y)
        | none => none
      | none => none)
    else none
  | _ + 1, (_, .inr _) :: _, _, _, _, _ => none
theorem zq_suf_mem {pc : Nat} {q : Nat × zq_It} : ∀ {cs : List (Nat × zq_It)}, q ∈ zq_suf pc cs → q ∈ cs
  | [], h => h
  | a :: r, h => by
    unfold zq_suf at h
    cases hb : Nat.beq a.1 pc with
    | true => rw [hb] at h; exact h
    | false => rw [hb] at h; exact List.mem_cons_of_mem _ (zq_suf_mem h)
theorem zq_all_app : ∀ {P P2 : List Prop}, zq_all (P ++ P2) → zq_all P ∧ zq_all P2
  | [], _, h => ⟨trivial, h⟩
  | _ :: P, P2, h => ⟨⟨h.1, (zq_all_app (P := P) h.2).1⟩, (zq_all_app (P := P) h.2).2⟩
theorem zq_run_wp {k : Nat} {i : zq_In} {cs : List (Nat × zq_It)} (hk : zq_tab[k]? = some (i, cs)) {Q : zq_Post} : ∀ (n : Nat) (ds : List (Nat × zq_It)), (∀ q ∈ ds, q ∈ cs) → ∀ {pc : Nat} {lo : zq_Lo} {st : List Value} {μ : zq_Me} {P : List Prop} {pc' : Nat} {lo' : zq_Lo} {st' : List Value} {μ' : zq_Me}, zq_run n ds pc lo st μ = some (P, pc', lo', st', μ') → zq_all P → zq_Wp k pc' lo' st' μ' Q → zq_Wp k pc lo st μ Q
  | 0, _, _, pc, lo, st, μ, P, pc', lo', st', μ', h, _, kk => by
    unfold zq_run at h
    cases h
    exact kk
  | n + 1, [], _, pc, lo, st, μ, P, pc', lo', st', μ', h, _, _ => by
    unfold zq_run at h
    cases h
  | n + 1, (q, .inr c) :: r, _, pc, lo, st, μ, P, pc', lo', st', μ', h, _, _ => by
    unfold zq_run at h
    cases h
  | n + 1, (q, .inl f) :: r, hm, pc, lo, st, μ, P, pc', lo', st', μ', h, hP, kk => by
    unfold zq_run at h
    cases hb : Nat.beq q pc with
    | false => rw [hb] at h; cases h
    | true =>
      rw [hb] at h
      have hq := Nat.eq_of_beq_eq_true hb
      subst hq
      cases hf : f lo st μ with
      | none => rw [hf] at h; cases h
      | some x =>
        obtain ⟨P1, pc1, lo1, st1, μ1⟩ := x
        rw [hf] at h
        dsimp only [cond_true] at h
        cases hr : zq_run n r pc1 lo1 st1 μ1 with
        | none => rw [hr] at h; cases h
        | some y =>
          obtain ⟨P2, y⟩ := y
          rw [hr] at h
          cases h
          obtain ⟨a1, a2⟩ := zq_all_app hP
          exact zq_Wp_cl.2.2.1 k q f P1 pc1 lo lo1 st st1 μ μ1 Q ⟨_, hk, hm _ List.mem_cons_self⟩ hf a1 (zq_run_wp hk n r (fun q hq => hm q (List.mem_cons_of_mem _ hq)) hr a2 kk)
/-- a straight stretch of n instructions -/
theorem zq_go {k : Nat} {i : zq_In} {cs : List (Nat × zq_It)} (hk : zq_tab[k]? = some (i, cs)) (n : Nat) {Q : zq_Post} {pc : Nat} {lo : zq_Lo} {st : List Value} {μ : zq_Me} (P : List Prop) (pc' : Nat) (lo' : zq_Lo) (st' : List Value) (μ' : zq_Me) (h : zq_run n (zq_suf pc cs) pc lo st μ = some (P, pc', lo', st', μ')) (hP : zq_all P) (kk : zq_Wp k pc' lo' st' μ' Q) : zq_Wp k pc lo st μ Q :=
  zq_run_wp hk n _ (fun _ h => zq_suf_mem h) h hP kk
theorem zq_ite {k : Nat} {Q : zq_Post} {lo : zq_Lo} {st : List Value} {μ : zq_Me} {c : Prop} [Decidable c] {a b : Nat} (h1 : c → zq_Wp k a lo st μ Q) (h2 : ¬ c → zq_Wp k b lo st μ Q) : zq_Wp k (if c then a else b) lo st μ Q := by
  by_cases h : c
  · rw [if_pos h]; exact h1 h
  · rw [if_neg h]; exact h2 h
def zq_fnd (pc : Nat) (cs : List (Nat × zq_It)) : Option zq_It := match zq_suf pc cs with
  | [] => none
  | q :: _ => some q.2
theorem zq_suf_hd {pc : Nat} : ∀ {cs : List (Nat × zq_It)} {q : Nat × zq_It} {r : List (Nat × zq_It)}, zq_suf pc cs = q :: r → q.1 = pc
  | [], _, _, h => by cases h
  | a :: t, q, r, h => by
    unfold zq_suf at h
    cases hb : Nat.beq a.1 pc with
    | true => rw [hb] at h; cases h; exact Nat.eq_of_beq_eq_true hb
    | false => rw [hb] at h; exact zq_suf_hd h
theorem zq_fnd_mem {pc : Nat} {cs : List (Nat × zq_It)} {it : zq_It} (h : zq_fnd pc cs = some it) : (pc, it) ∈ cs := by
  unfold zq_fnd at h
  split at h
  · cases h
  · rename_i q r hs
    cases h
    have h1 : q ∈ cs := zq_suf_mem (by rw [hs]; exact List.mem_cons_self)
    rw [← zq_suf_hd hs]
    exact h1
def zq_chk (pc : Nat) (cs : List (Nat × zq_It)) (as rest : List Value) : Option (Nat × zq_Lo) := match zq_fnd pc cs with
  | some (.inr (.inl (n, c))) => match zq_cal c as with
    | some k' => match zq_inf[k']? with
      | some i' => bif Nat.beq as.length n && (Nat.ble (zq_cats rest) 8 && Nat.ble (lg_sl as).length i'.2.2.1) then some (k', lv_args 0 as) else none
      | none => none
    | none => none
  | _ => none
theorem zq_call {k : Nat} {i : zq_In} {cs : List (Nat × zq_It)} (hk : zq_tab[k]? = some (i, cs)) {pc : Nat} {lo : zq_Lo} {st : List Value} {μ : zq_Me} {Q : zq_Post} (as rest : List Value) {k' : Nat} {lo0 : zq_Lo} {Q1 : zq_Post} (h7 : zq_Wp k' 0 lo0 [] μ Q1) (hst : st = as.reverse ++ rest) (h : zq_chk pc cs as rest = some (k', lo0)) (h8 : ∀ v μ', Q1 v μ' → zq_Wp k (pc + 3) lo (v.toList ++ rest) μ' Q) : zq_Wp k pc lo st μ Q := by
  unfold zq_chk at h
  split at h
  · rename_i n c hf
    split at h
    · rename_i k1 hc
      split at h
      · rename_i i' hi
        cases hb : Nat.beq as.length n && (Nat.ble (zq_cats rest) 8 && Nat.ble (lg_sl as).length i'.2.2.1) with
        | false => rw [hb] at h; cases h
        | true =>
          rw [hb] at h
          cases h
          rw [Bool.and_eq_true, Bool.and_eq_true] at hb
          subst hst
          exact zq_Wp_cl.2.2.2 k pc n c k' i' as rest lo μ Q1 Q ⟨_, hk, zq_fnd_mem hf⟩ hc hi (Nat.eq_of_beq_eq_true hb.1) (Nat.le_of_ble_eq_true hb.2.1) (Nat.le_of_ble_eq_true hb.2.2) h7 h8
      · cases h
    · cases h
  · cases h
theorem zq_retn {k : Nat} {i : zq_In} {cs : List (Nat × zq_It)} (hk : zq_tab[k]? = some (i, cs)) {pc : Nat} {lo : zq_Lo} {st : List Value} {μ : zq_Me} {Q : zq_Post} {kind : Nat} {v : Option Value} (hf : zq_fnd pc cs = some (.inr (.inr kind))) (h : zq_ret kind st = some v) (hq : Q v μ) : zq_Wp k pc lo st μ Q :=
  zq_Wp_cl.1 k pc kind lo st μ Q v ⟨_, hk, zq_fnd_mem hf⟩ (Or.inr h) hq
theorem zq_retz {k : Nat} {i : zq_In} {cs : List (Nat × zq_It)} (hk : zq_tab[k]? = some (i, cs)) {pc : Nat} {lo : zq_Lo} {b : Int32} {μ : zq_Me} {Q : zq_Post} (hf : zq_fnd pc cs = some (.inr (.inr 2))) (h : b = 0 ∨ b = 1) (hq : Q (some (.int b)) μ) : zq_Wp k pc lo [.int b] μ Q :=
  zq_Wp_cl.1 k pc 2 lo [.int b] μ Q _ ⟨_, hk, zq_fnd_mem hf⟩ (Or.inl ⟨rfl, b, rfl, rfl, h⟩) hq
def zq_keep (ks : List Nat) (lo : zq_Lo) : zq_Lo := lo.filter (fun q => ks.any (fun k => Nat.beq k q.1))
theorem zq_drp {k pc : Nat} {lo : zq_Lo} {st : List Value} {μ : zq_Me} {Q : zq_Post} (ks : List Nat) (lo' : zq_Lo) (h : zq_keep ks lo = lo') (kk : zq_Wp k pc lo' st μ Q) : zq_Wp k pc lo st μ Q := by
  subst h
  exact zq_Wp_cl.2.1 k pc lo _ st μ Q (fun q hq => (List.mem_filter.mp hq).1) kk
/-! what a store says of later reads -/
theorem zq_u1_eq {μ : zq_Me} {a i : Nat} {x : Int32} : (zq_u1 μ a i x).1 a = upd (μ.1 a) i x := by simp [zq_u1]
theorem zq_u1_ne {μ : zq_Me} {a b i : Nat} {x : Int32} (h : b ≠ a) : (zq_u1 μ a i x).1 b = μ.1 b := by simp [zq_u1, h]
theorem zq_u1_2 {μ : zq_Me} {a i : Nat} {x : Int32} : (zq_u1 μ a i x).2 = μ.2 := rfl
theorem zq_upd_eq {f : Nat → Int32} {i : Nat} {x : Int32} : upd f i x i = x := by simp [upd]
theorem zq_upd_ne {f : Nat → Int32} {i j : Nat} {x : Int32} (h : j ≠ i) : upd f i x j = f j := by simp [upd, h]
/-! numbers -/
theorem zn_add (a b : Nat) : nI a + nI b = nI (a + b) := nI_add a b
theorem zn_mul (a b : Nat) : nI a * nI b = nI (a * b) := (Int32.ofNat_mul a b).symm
theorem zn_cl {n : Nat} (h : n < 2 ^ 31) : (nI n).toNatClampNeg = n := nI_clamp h
theorem zn_in {i : Int32} {k n : Nat} (h : i = nI k) (hk : k < n) (hn : n < 2 ^ 31) : vp_in i n := by subst h; exact vp_in_nI hk hn
def zb (p : Prop) [Decidable p] : Int32 := if p then 1 else 0
theorem zb_01 (p : Prop) [Decidable p] : zb p = 0 ∨ zb p = 1 := by unfold zb; split; exact Or.inr rfl; exact Or.inl rfl
theorem zb_0 {p : Prop} [Decidable p] : zb p = 0 ↔ ¬ p := by
  unfold zb
  by_cases h : p
  · rw [if_pos h]; exact ⟨fun h9 => absurd h9 (by decide), fun h9 => absurd h h9⟩
  · rw [if_neg h]; exact ⟨fun _ => h, fun _ => rfl⟩
theorem zb_t {p : Prop} [Decidable p] (h : p) : zb p = 1 := if_pos h
theorem zb_f {p : Prop} [Decidable p] (h : ¬ p) : zb p = 0 := if_neg h
/-- a pure answer -/
def zq_pi (r : Int32) (μ : zq_Me) : zq_Post := fun v μ' => v = some (.int r) ∧ μ = μ'
