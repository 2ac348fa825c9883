/-! ===== the law's loop ===== -/
theorem zl_inv {k pc : Nat} {lo : zq_Lo} {st : List Value} {μ : zq_Me} {Q : zq_Post} (h : zq_Wp k pc lo st μ Q) : ∃ (v : Option Value) (μ' : zq_Me) (pc' kind : Nat) (st' : List Value), zq_at' k pc' (.inr (.inr kind)) ∧ (kind = 2 ∧ (∃ b : Int32, v = some (.int b)) ∨ zq_ret kind st' = some v) ∧ Q v μ' := by
  refine h (fun k _ _ _ _ Q => ∃ (v : Option Value) (μ' : zq_Me) (pc' kind : Nat) (st' : List Value), zq_at' k pc' (.inr (.inr kind)) ∧ (kind = 2 ∧ (∃ b : Int32, v = some (.int b)) ∨ zq_ret kind st' = some v) ∧ Q v μ') ⟨?_, ?_, ?_, ?_⟩
  · intro k pc kind lo st μ Q v h1 h2 h3
    exact ⟨v, μ, pc, kind, st, h1, h2.imp (fun q => ⟨q.1, by obtain ⟨b, -, e, -⟩ := q.2; exact ⟨b, e⟩⟩) id, h3⟩
  · intro k pc lo lo' st μ Q _ h2
    exact h2
  · intro k pc f P pc' lo lo' st st' μ μ' Q _ _ _ h4
    exact h4
  · intro k pc n c k' i' as rest lo μ Q1 Q _ _ _ _ _ _ h7 h8
    obtain ⟨v, μ', _, _, _, _, _, hq⟩ := h7
    exact h8 v μ' hq
def zl_k (kd : Nat) (cs : List (Nat × zq_It)) : Bool := cs.all (fun q => match q.2 with
  | .inr (.inr x) => Nat.beq x kd
  | _ => true)
theorem zl_kind {kd k : Nat} {i : zq_In} {cs : List (Nat × zq_It)} (hk : zq_tab[k]? = some (i, cs)) (hz : zl_k kd cs = true) {pc kind : Nat} (h : zq_at' k pc (.inr (.inr kind))) : kind = kd := by
  obtain ⟨e, h1, h2⟩ := h
  rw [hk] at h1
  cases h1
  have h3 := (List.all_eq_true.mp hz) _ h2
  exact Nat.eq_of_beq_eq_true h3
theorem zl_int {k : Nat} {lo : zq_Lo} {μ : zq_Me} {r : Value} {τ : zTd} {S : zES} {H : zSH} (h : zq_Wp k 0 lo [] μ (zRc r τ S H μ)) {i : zq_In} {cs : List (Nat × zq_It)} (hk : zq_tab[k]? = some (i, cs)) (hz : zl_k 1 cs = true) : ∃ x : Int32, r = .int x := by
  obtain ⟨v, μ', pc', kind, st', h1, h2, h3⟩ := zl_inv h
  have h4 := zl_kind hk hz h1
  subst h4
  obtain ⟨rfl, -⟩ := h3
  rcases h2 with ⟨h2, -⟩ | h2
  · exact absurd h2 (by decide)
  · obtain ⟨-, h5⟩ := zq_ret_list h2
    rcases h5 with ⟨h6, -⟩ | ⟨-, x, h7⟩ | ⟨h6, -⟩ | ⟨h6, -⟩
    · exact absurd h6 (by decide)
    · cases h7; exact ⟨x, rfl⟩
    · exact absurd h6 (by decide)
    · exact absurd h6 (by decide)
theorem zl_long {k : Nat} {lo : zq_Lo} {μ : zq_Me} {r : Value} {τ : zTd} {S : zES} {H : zSH} (h : zq_Wp k 0 lo [] μ (zRc r τ S H μ)) {i : zq_In} {cs : List (Nat × zq_It)} (hk : zq_tab[k]? = some (i, cs)) (hz : zl_k 3 cs = true) : ∃ x : Int64, r = .long x := by
  obtain ⟨v, μ', pc', kind, st', h1, h2, h3⟩ := zl_inv h
  have h4 := zl_kind hk hz h1
  subst h4
  obtain ⟨rfl, -⟩ := h3
  rcases h2 with ⟨h2, -⟩ | h2
  · exact absurd h2 (by decide)
  · obtain ⟨-, h5⟩ := zq_ret_list h2
    rcases h5 with ⟨h6, -⟩ | ⟨h6, -⟩ | ⟨-, x, h7⟩ | ⟨h6, -⟩
    · exact absurd h6 (by decide)
    · exact absurd h6 (by decide)
    · cases h7; exact ⟨x, rfl⟩
    · exact absurd h6 (by decide)
theorem zl_SC : ∀ b, b ∈ zSC → b < 50 := by decide
theorem zl_SM : ∀ b, b < 50 → b ∉ zSM := by decide
theorem zl_gt6 {L i : Nat} (hL : L ≤ 384) (hi : i ≤ L + 6) : (nI L - nI 6 < nI i) = (L < i + 6) := by
  by_cases h : 6 ≤ L
  · rw [zn_sub h, zn_lt (by omega) (by omega)]
    exact propext ⟨fun q => by omega, fun q => by omega⟩
  · have h9 : nI L - nI 6 < nI 0 := by
      rcases (show L = 0 ∨ L = 1 ∨ L = 2 ∨ L = 3 ∨ L = 4 ∨ L = 5 by omega) with rfl | rfl | rfl | rfl | rfl | rfl <;> decide
    have h8 : nI 0 ≤ nI i := by rw [zn_le (by decide) (by omega)]; exact Nat.zero_le _
    exact propext ⟨fun _ => by omega, fun _ => Int32.lt_of_lt_of_le h9 h8⟩
theorem zl_tgt {Q : zq_Post} {k : Nat} {lo : zq_Lo} {st : List Value} {μ : zq_Me} {l9 h9 : Int} {d : Nat} {tg : List Nat} {x : Int32} (hd : zq_Wp k d lo st μ Q) (h : ∀ t ∈ tg, zq_Wp k t lo st μ Q) : zq_Wp k (zq_tgt l9 h9 d tg x) lo st μ Q := by
  unfold zq_tgt
  split
  · exact hd
  · rw [List.getD_eq_getElem?_getD]
    cases e : tg[(x.toInt - l9).toNat]? with
    | none => exact hd
    | some t => exact h t (List.mem_of_getElem? e)
/-- the joint state at the loop's head -/
def zlK (Q : zq_Post) (i L : Nat) (sc : Nat × (Nat → Int32)) : Prop := ∀ (τ : zTd) (S : zES) (H : zSH) (μ : zq_Me), zIc τ S H μ → zIm τ S H μ → μ.2.2.2 = sc → zq_Wp zn_L_law 1329 [(0, .ref 77), (1, .ref 0), (2, .ref 50), (3, .int (nI i))] [] μ Q
set_option maxRecDepth 100000 in
set_option maxHeartbeats 4000000 in
theorem zl_type {Q : zq_Post} {i L : Nat} {sc : Nat × (Nat → Int32)} (hL8 : sc.1 = L) (hi : i + 6 ≤ L) (hL : L ≤ 384) (kk : zlK Q i L sc) {τ : zTd} {S : zES} {H : zSH} {μ : zq_Me} (hC : zIc τ S H μ) (hM : zIm τ S H μ) (hs : μ.2.2.2 = sc) : zq_Wp zn_L_law 196 [(0, .ref 77), (1, .ref 0), (2, .ref 50), (3, .int (nI i))] [] μ Q := by
  have hL0 : μ.2.2.2.1 = L := by rw [hs]; exact hL8
  obtain ⟨r, τ1, S1, H1, hc, hm⟩ := zo_type (μ.2.2.2.2 ((nI i) + (nI 1)).toNatClampNeg) (μ.2.2.2.2 ((nI i) + (nI 2)).toNatClampNeg) τ S H μ hC hM
  obtain ⟨x9, rfl⟩ := zl_int hc zt_X8_type rfl
  refine zq_go zt_L_law 11 [vp_in ((nI i) + (nI 1)) μ.2.2.2.1, vp_in ((nI i) + (nI 2)) μ.2.2.2.1] 207 [(0, .ref 77), (1, .ref 0), (2, .ref 50), (3, .int (nI i))] [(.int (μ.2.2.2.2 ((nI i) + (nI 2)).toNatClampNeg)), (.int (μ.2.2.2.2 ((nI i) + (nI 1)).toNatClampNeg)), .ref 0] μ rfl ⟨zn_in (k := i + 1) (zn_add i 1) (by omega) (by omega), zn_in (k := i + 2) (zn_add i 2) (by omega) (by omega), trivial⟩ ?_
  refine zq_call zt_L_law [.ref 0, (.int (μ.2.2.2.2 ((nI i) + (nI 1)).toNatClampNeg)), (.int (μ.2.2.2.2 ((nI i) + (nI 2)).toNatClampNeg))] [] hc rfl rfl ?_
  rintro _ μ1 ⟨rfl, hC1, f1⟩
  have hM1 := hM.fr f1 zl_SC
  have e1 := f1.2
  rw [hs] at e1
  have hL1 : μ1.2.2.2.1 = L := by rw [e1]; exact hL8
  refine zq_go zt_L_law 11 [vp_in ((nI i) + (nI 1)) μ1.2.2.2.1, vp_in ((nI i) + (nI 2)) μ1.2.2.2.1] 221 [(0, .ref 77), (1, .ref 0), (2, .ref 50), (3, .int (nI i))] [(.int (μ1.2.2.2.2 ((nI i) + (nI 2)).toNatClampNeg)), (.int (μ1.2.2.2.2 ((nI i) + (nI 1)).toNatClampNeg)), .ref 50, .int x9] μ1 rfl ⟨zn_in (k := i + 1) (zn_add i 1) (by omega) (by omega), zn_in (k := i + 2) (zn_add i 2) (by omega) (by omega), trivial⟩ ?_
  rw [show μ1.2.2.2 = μ.2.2.2 from f1.2]
  refine zq_call zt_L_law [.ref 50, (.int (μ.2.2.2.2 ((nI i) + (nI 1)).toNatClampNeg)), (.int (μ.2.2.2.2 ((nI i) + (nI 2)).toNatClampNeg))] [.int x9] (hm μ1 hM1) rfl rfl ?_
  rintro _ μ2 ⟨rfl, hM2, f2⟩
  refine zq_go zt_L_law 1 [] (if x9 = x9 then 1329 else 227) [(0, .ref 77), (1, .ref 0), (2, .ref 50), (3, .int (nI i))] [] μ2 rfl trivial ?_
  rw [if_pos rfl]
  exact kk τ1 S1 H1 μ2 (hC1.fr f2 zl_SM) hM2 (by rw [f2.2, e1])
set_option maxRecDepth 100000 in
set_option maxHeartbeats 4000000 in
theorem zl_wipe {Q : zq_Post} {i L : Nat} {sc : Nat × (Nat → Int32)} (hL8 : sc.1 = L) (hi : i + 6 ≤ L) (hL : L ≤ 384) (kk : zlK Q i L sc) {τ : zTd} {S : zES} {H : zSH} {μ : zq_Me} (hC : zIc τ S H μ) (hM : zIm τ S H μ) (hs : μ.2.2.2 = sc) : zq_Wp zn_L_law 229 [(0, .ref 77), (1, .ref 0), (2, .ref 50), (3, .int (nI i))] [] μ Q := by
  have hL0 : μ.2.2.2.1 = L := by rw [hs]; exact hL8
  obtain ⟨r, τ1, S1, H1, hc, hm⟩ := zo_wipe (μ.2.2.2.2 ((nI i) + (nI 1)).toNatClampNeg) τ S H μ hC hM
  obtain ⟨x9, rfl⟩ := zl_int hc zt_X8_wipe rfl
  refine zq_go zt_L_law 6 [vp_in ((nI i) + (nI 1)) μ.2.2.2.1] 235 [(0, .ref 77), (1, .ref 0), (2, .ref 50), (3, .int (nI i))] [(.int (μ.2.2.2.2 ((nI i) + (nI 1)).toNatClampNeg)), .ref 0] μ rfl ⟨zn_in (k := i + 1) (zn_add i 1) (by omega) (by omega), trivial⟩ ?_
  refine zq_call zt_L_law [.ref 0, (.int (μ.2.2.2.2 ((nI i) + (nI 1)).toNatClampNeg))] [] hc rfl rfl ?_
  rintro _ μ1 ⟨rfl, hC1, f1⟩
  have hM1 := hM.fr f1 zl_SC
  have e1 := f1.2
  rw [hs] at e1
  have hL1 : μ1.2.2.2.1 = L := by rw [e1]; exact hL8
  refine zq_go zt_L_law 6 [vp_in ((nI i) + (nI 1)) μ1.2.2.2.1] 244 [(0, .ref 77), (1, .ref 0), (2, .ref 50), (3, .int (nI i))] [(.int (μ1.2.2.2.2 ((nI i) + (nI 1)).toNatClampNeg)), .ref 50, .int x9] μ1 rfl ⟨zn_in (k := i + 1) (zn_add i 1) (by omega) (by omega), trivial⟩ ?_
  rw [show μ1.2.2.2 = μ.2.2.2 from f1.2]
  refine zq_call zt_L_law [.ref 50, (.int (μ.2.2.2.2 ((nI i) + (nI 1)).toNatClampNeg))] [.int x9] (hm μ1 hM1) rfl rfl ?_
  rintro _ μ2 ⟨rfl, hM2, f2⟩
  refine zq_go zt_L_law 1 [] (if x9 = x9 then 1329 else 250) [(0, .ref 77), (1, .ref 0), (2, .ref 50), (3, .int (nI i))] [] μ2 rfl trivial ?_
  rw [if_pos rfl]
  exact kk τ1 S1 H1 μ2 (hC1.fr f2 zl_SM) hM2 (by rw [f2.2, e1])
set_option maxRecDepth 100000 in
set_option maxHeartbeats 4000000 in
theorem zl_undo {Q : zq_Post} {i L : Nat} {sc : Nat × (Nat → Int32)} (hL8 : sc.1 = L) (hi : i + 6 ≤ L) (hL : L ≤ 384) (kk : zlK Q i L sc) {τ : zTd} {S : zES} {H : zSH} {μ : zq_Me} (hC : zIc τ S H μ) (hM : zIm τ S H μ) (hs : μ.2.2.2 = sc) : zq_Wp zn_L_law 252 [(0, .ref 77), (1, .ref 0), (2, .ref 50), (3, .int (nI i))] [] μ Q := by
  have hL0 : μ.2.2.2.1 = L := by rw [hs]; exact hL8
  obtain ⟨r, τ1, S1, H1, hc, hm⟩ := zo_undo (μ.2.2.2.2 ((nI i) + (nI 1)).toNatClampNeg) τ S H μ hC hM
  obtain ⟨x9, rfl⟩ := zl_int hc zt_X8_undo rfl
  refine zq_go zt_L_law 6 [vp_in ((nI i) + (nI 1)) μ.2.2.2.1] 258 [(0, .ref 77), (1, .ref 0), (2, .ref 50), (3, .int (nI i))] [(.int (μ.2.2.2.2 ((nI i) + (nI 1)).toNatClampNeg)), .ref 0] μ rfl ⟨zn_in (k := i + 1) (zn_add i 1) (by omega) (by omega), trivial⟩ ?_
  refine zq_call zt_L_law [.ref 0, (.int (μ.2.2.2.2 ((nI i) + (nI 1)).toNatClampNeg))] [] hc rfl rfl ?_
  rintro _ μ1 ⟨rfl, hC1, f1⟩
  have hM1 := hM.fr f1 zl_SC
  have e1 := f1.2
  rw [hs] at e1
  have hL1 : μ1.2.2.2.1 = L := by rw [e1]; exact hL8
  refine zq_go zt_L_law 6 [vp_in ((nI i) + (nI 1)) μ1.2.2.2.1] 267 [(0, .ref 77), (1, .ref 0), (2, .ref 50), (3, .int (nI i))] [(.int (μ1.2.2.2.2 ((nI i) + (nI 1)).toNatClampNeg)), .ref 50, .int x9] μ1 rfl ⟨zn_in (k := i + 1) (zn_add i 1) (by omega) (by omega), trivial⟩ ?_
  rw [show μ1.2.2.2 = μ.2.2.2 from f1.2]
  refine zq_call zt_L_law [.ref 50, (.int (μ.2.2.2.2 ((nI i) + (nI 1)).toNatClampNeg))] [.int x9] (hm μ1 hM1) rfl rfl ?_
  rintro _ μ2 ⟨rfl, hM2, f2⟩
  refine zq_go zt_L_law 1 [] (if x9 = x9 then 1329 else 273) [(0, .ref 77), (1, .ref 0), (2, .ref 50), (3, .int (nI i))] [] μ2 rfl trivial ?_
  rw [if_pos rfl]
  exact kk τ1 S1 H1 μ2 (hC1.fr f2 zl_SM) hM2 (by rw [f2.2, e1])
set_option maxRecDepth 100000 in
set_option maxHeartbeats 4000000 in
theorem zl_fault {Q : zq_Post} {i L : Nat} {sc : Nat × (Nat → Int32)} (hL8 : sc.1 = L) (hi : i + 6 ≤ L) (hL : L ≤ 384) (kk : zlK Q i L sc) {τ : zTd} {S : zES} {H : zSH} {μ : zq_Me} (hC : zIc τ S H μ) (hM : zIm τ S H μ) (hs : μ.2.2.2 = sc) : zq_Wp zn_L_law 275 [(0, .ref 77), (1, .ref 0), (2, .ref 50), (3, .int (nI i))] [] μ Q := by
  have hL0 : μ.2.2.2.1 = L := by rw [hs]; exact hL8
  obtain ⟨r, τ1, S1, H1, hc, hm⟩ := zo_fault (μ.2.2.2.2 ((nI i) + (nI 1)).toNatClampNeg) τ S H μ hC hM
  obtain ⟨x9, rfl⟩ := zl_int hc zt_X8_fault rfl
  refine zq_go zt_L_law 6 [vp_in ((nI i) + (nI 1)) μ.2.2.2.1] 281 [(0, .ref 77), (1, .ref 0), (2, .ref 50), (3, .int (nI i))] [(.int (μ.2.2.2.2 ((nI i) + (nI 1)).toNatClampNeg)), .ref 0] μ rfl ⟨zn_in (k := i + 1) (zn_add i 1) (by omega) (by omega), trivial⟩ ?_
  refine zq_call zt_L_law [.ref 0, (.int (μ.2.2.2.2 ((nI i) + (nI 1)).toNatClampNeg))] [] hc rfl rfl ?_
  rintro _ μ1 ⟨rfl, hC1, f1⟩
  have hM1 := hM.fr f1 zl_SC
  have e1 := f1.2
  rw [hs] at e1
  have hL1 : μ1.2.2.2.1 = L := by rw [e1]; exact hL8
  refine zq_go zt_L_law 6 [vp_in ((nI i) + (nI 1)) μ1.2.2.2.1] 290 [(0, .ref 77), (1, .ref 0), (2, .ref 50), (3, .int (nI i))] [(.int (μ1.2.2.2.2 ((nI i) + (nI 1)).toNatClampNeg)), .ref 50, .int x9] μ1 rfl ⟨zn_in (k := i + 1) (zn_add i 1) (by omega) (by omega), trivial⟩ ?_
  rw [show μ1.2.2.2 = μ.2.2.2 from f1.2]
  refine zq_call zt_L_law [.ref 50, (.int (μ.2.2.2.2 ((nI i) + (nI 1)).toNatClampNeg))] [.int x9] (hm μ1 hM1) rfl rfl ?_
  rintro _ μ2 ⟨rfl, hM2, f2⟩
  refine zq_go zt_L_law 1 [] (if x9 = x9 then 1329 else 296) [(0, .ref 77), (1, .ref 0), (2, .ref 50), (3, .int (nI i))] [] μ2 rfl trivial ?_
  rw [if_pos rfl]
  exact kk τ1 S1 H1 μ2 (hC1.fr f2 zl_SM) hM2 (by rw [f2.2, e1])
set_option maxRecDepth 100000 in
set_option maxHeartbeats 4000000 in
theorem zl_door {Q : zq_Post} {i L : Nat} {sc : Nat × (Nat → Int32)} (hL8 : sc.1 = L) (hi : i + 6 ≤ L) (hL : L ≤ 384) (kk : zlK Q i L sc) {τ : zTd} {S : zES} {H : zSH} {μ : zq_Me} (hC : zIc τ S H μ) (hM : zIm τ S H μ) (hs : μ.2.2.2 = sc) : zq_Wp zn_L_law 298 [(0, .ref 77), (1, .ref 0), (2, .ref 50), (3, .int (nI i))] [] μ Q := by
  have hL0 : μ.2.2.2.1 = L := by rw [hs]; exact hL8
  obtain ⟨r, τ1, S1, H1, hc, hm⟩ := zo_door (μ.2.2.2.2 ((nI i) + (nI 1)).toNatClampNeg) (μ.2.2.2.2 ((nI i) + (nI 2)).toNatClampNeg) τ S H μ hC hM
  obtain ⟨x9, rfl⟩ := zl_int hc zt_X8_door rfl
  refine zq_go zt_L_law 11 [vp_in ((nI i) + (nI 1)) μ.2.2.2.1, vp_in ((nI i) + (nI 2)) μ.2.2.2.1] 309 [(0, .ref 77), (1, .ref 0), (2, .ref 50), (3, .int (nI i))] [(.int (μ.2.2.2.2 ((nI i) + (nI 2)).toNatClampNeg)), (.int (μ.2.2.2.2 ((nI i) + (nI 1)).toNatClampNeg)), .ref 0] μ rfl ⟨zn_in (k := i + 1) (zn_add i 1) (by omega) (by omega), zn_in (k := i + 2) (zn_add i 2) (by omega) (by omega), trivial⟩ ?_
  refine zq_call zt_L_law [.ref 0, (.int (μ.2.2.2.2 ((nI i) + (nI 1)).toNatClampNeg)), (.int (μ.2.2.2.2 ((nI i) + (nI 2)).toNatClampNeg))] [] hc rfl rfl ?_
  rintro _ μ1 ⟨rfl, hC1, f1⟩
  have hM1 := hM.fr f1 zl_SC
  have e1 := f1.2
  rw [hs] at e1
  have hL1 : μ1.2.2.2.1 = L := by rw [e1]; exact hL8
  refine zq_go zt_L_law 11 [vp_in ((nI i) + (nI 1)) μ1.2.2.2.1, vp_in ((nI i) + (nI 2)) μ1.2.2.2.1] 323 [(0, .ref 77), (1, .ref 0), (2, .ref 50), (3, .int (nI i))] [(.int (μ1.2.2.2.2 ((nI i) + (nI 2)).toNatClampNeg)), (.int (μ1.2.2.2.2 ((nI i) + (nI 1)).toNatClampNeg)), .ref 50, .int x9] μ1 rfl ⟨zn_in (k := i + 1) (zn_add i 1) (by omega) (by omega), zn_in (k := i + 2) (zn_add i 2) (by omega) (by omega), trivial⟩ ?_
  rw [show μ1.2.2.2 = μ.2.2.2 from f1.2]
  refine zq_call zt_L_law [.ref 50, (.int (μ.2.2.2.2 ((nI i) + (nI 1)).toNatClampNeg)), (.int (μ.2.2.2.2 ((nI i) + (nI 2)).toNatClampNeg))] [.int x9] (hm μ1 hM1) rfl rfl ?_
  rintro _ μ2 ⟨rfl, hM2, f2⟩
  refine zq_go zt_L_law 1 [] (if x9 = x9 then 1329 else 329) [(0, .ref 77), (1, .ref 0), (2, .ref 50), (3, .int (nI i))] [] μ2 rfl trivial ?_
  rw [if_pos rfl]
  exact kk τ1 S1 H1 μ2 (hC1.fr f2 zl_SM) hM2 (by rw [f2.2, e1])
set_option maxRecDepth 100000 in
set_option maxHeartbeats 4000000 in
theorem zl_person {Q : zq_Post} {i L : Nat} {sc : Nat × (Nat → Int32)} (hL8 : sc.1 = L) (hi : i + 6 ≤ L) (hL : L ≤ 384) (kk : zlK Q i L sc) {τ : zTd} {S : zES} {H : zSH} {μ : zq_Me} (hC : zIc τ S H μ) (hM : zIm τ S H μ) (hs : μ.2.2.2 = sc) : zq_Wp zn_L_law 331 [(0, .ref 77), (1, .ref 0), (2, .ref 50), (3, .int (nI i))] [] μ Q := by
  have hL0 : μ.2.2.2.1 = L := by rw [hs]; exact hL8
  obtain ⟨r, τ1, S1, H1, hc, hm⟩ := zo_person (μ.2.2.2.2 ((nI i) + (nI 1)).toNatClampNeg) (μ.2.2.2.2 ((nI i) + (nI 2)).toNatClampNeg) τ S H μ hC hM
  obtain ⟨x9, rfl⟩ := zl_int hc zt_X8_person rfl
  refine zq_go zt_L_law 11 [vp_in ((nI i) + (nI 1)) μ.2.2.2.1, vp_in ((nI i) + (nI 2)) μ.2.2.2.1] 342 [(0, .ref 77), (1, .ref 0), (2, .ref 50), (3, .int (nI i))] [(.int (μ.2.2.2.2 ((nI i) + (nI 2)).toNatClampNeg)), (.int (μ.2.2.2.2 ((nI i) + (nI 1)).toNatClampNeg)), .ref 0] μ rfl ⟨zn_in (k := i + 1) (zn_add i 1) (by omega) (by omega), zn_in (k := i + 2) (zn_add i 2) (by omega) (by omega), trivial⟩ ?_
  refine zq_call zt_L_law [.ref 0, (.int (μ.2.2.2.2 ((nI i) + (nI 1)).toNatClampNeg)), (.int (μ.2.2.2.2 ((nI i) + (nI 2)).toNatClampNeg))] [] hc rfl rfl ?_
  rintro _ μ1 ⟨rfl, hC1, f1⟩
  have hM1 := hM.fr f1 zl_SC
  have e1 := f1.2
  rw [hs] at e1
  have hL1 : μ1.2.2.2.1 = L := by rw [e1]; exact hL8
  refine zq_go zt_L_law 11 [vp_in ((nI i) + (nI 1)) μ1.2.2.2.1, vp_in ((nI i) + (nI 2)) μ1.2.2.2.1] 356 [(0, .ref 77), (1, .ref 0), (2, .ref 50), (3, .int (nI i))] [(.int (μ1.2.2.2.2 ((nI i) + (nI 2)).toNatClampNeg)), (.int (μ1.2.2.2.2 ((nI i) + (nI 1)).toNatClampNeg)), .ref 50, .int x9] μ1 rfl ⟨zn_in (k := i + 1) (zn_add i 1) (by omega) (by omega), zn_in (k := i + 2) (zn_add i 2) (by omega) (by omega), trivial⟩ ?_
  rw [show μ1.2.2.2 = μ.2.2.2 from f1.2]
  refine zq_call zt_L_law [.ref 50, (.int (μ.2.2.2.2 ((nI i) + (nI 1)).toNatClampNeg)), (.int (μ.2.2.2.2 ((nI i) + (nI 2)).toNatClampNeg))] [.int x9] (hm μ1 hM1) rfl rfl ?_
  rintro _ μ2 ⟨rfl, hM2, f2⟩
  refine zq_go zt_L_law 1 [] (if x9 = x9 then 1329 else 362) [(0, .ref 77), (1, .ref 0), (2, .ref 50), (3, .int (nI i))] [] μ2 rfl trivial ?_
  rw [if_pos rfl]
  exact kk τ1 S1 H1 μ2 (hC1.fr f2 zl_SM) hM2 (by rw [f2.2, e1])
set_option maxRecDepth 100000 in
set_option maxHeartbeats 4000000 in
theorem zl_ahead {Q : zq_Post} {i L : Nat} {sc : Nat × (Nat → Int32)} (hL8 : sc.1 = L) (hi : i + 6 ≤ L) (hL : L ≤ 384) (kk : zlK Q i L sc) {τ : zTd} {S : zES} {H : zSH} {μ : zq_Me} (hC : zIc τ S H μ) (hM : zIm τ S H μ) (hs : μ.2.2.2 = sc) : zq_Wp zn_L_law 364 [(0, .ref 77), (1, .ref 0), (2, .ref 50), (3, .int (nI i))] [] μ Q := by
  have hL0 : μ.2.2.2.1 = L := by rw [hs]; exact hL8
  obtain ⟨r, τ1, S1, H1, hc, hm⟩ := zo_ahead (μ.2.2.2.2 ((nI i) + (nI 1)).toNatClampNeg) τ S H μ hC hM
  obtain ⟨x9, rfl⟩ := zl_int hc zt_X8_ahead rfl
  refine zq_go zt_L_law 6 [vp_in ((nI i) + (nI 1)) μ.2.2.2.1] 370 [(0, .ref 77), (1, .ref 0), (2, .ref 50), (3, .int (nI i))] [(.int (μ.2.2.2.2 ((nI i) + (nI 1)).toNatClampNeg)), .ref 0] μ rfl ⟨zn_in (k := i + 1) (zn_add i 1) (by omega) (by omega), trivial⟩ ?_
  refine zq_call zt_L_law [.ref 0, (.int (μ.2.2.2.2 ((nI i) + (nI 1)).toNatClampNeg))] [] hc rfl rfl ?_
  rintro _ μ1 ⟨rfl, hC1, f1⟩
  have hM1 := hM.fr f1 zl_SC
  have e1 := f1.2
  rw [hs] at e1
  have hL1 : μ1.2.2.2.1 = L := by rw [e1]; exact hL8
  refine zq_go zt_L_law 6 [vp_in ((nI i) + (nI 1)) μ1.2.2.2.1] 379 [(0, .ref 77), (1, .ref 0), (2, .ref 50), (3, .int (nI i))] [(.int (μ1.2.2.2.2 ((nI i) + (nI 1)).toNatClampNeg)), .ref 50, .int x9] μ1 rfl ⟨zn_in (k := i + 1) (zn_add i 1) (by omega) (by omega), trivial⟩ ?_
  rw [show μ1.2.2.2 = μ.2.2.2 from f1.2]
  refine zq_call zt_L_law [.ref 50, (.int (μ.2.2.2.2 ((nI i) + (nI 1)).toNatClampNeg))] [.int x9] (hm μ1 hM1) rfl rfl ?_
  rintro _ μ2 ⟨rfl, hM2, f2⟩
  refine zq_go zt_L_law 1 [] (if x9 = x9 then 1329 else 385) [(0, .ref 77), (1, .ref 0), (2, .ref 50), (3, .int (nI i))] [] μ2 rfl trivial ?_
  rw [if_pos rfl]
  exact kk τ1 S1 H1 μ2 (hC1.fr f2 zl_SM) hM2 (by rw [f2.2, e1])
set_option maxRecDepth 100000 in
set_option maxHeartbeats 4000000 in
theorem zl_event {Q : zq_Post} {i L : Nat} {sc : Nat × (Nat → Int32)} (hL8 : sc.1 = L) (hi : i + 6 ≤ L) (hL : L ≤ 384) (kk : zlK Q i L sc) {τ : zTd} {S : zES} {H : zSH} {μ : zq_Me} (hC : zIc τ S H μ) (hM : zIm τ S H μ) (hs : μ.2.2.2 = sc) : zq_Wp zn_L_law 387 [(0, .ref 77), (1, .ref 0), (2, .ref 50), (3, .int (nI i))] [] μ Q := by
  have hL0 : μ.2.2.2.1 = L := by rw [hs]; exact hL8
  obtain ⟨r, τ1, S1, H1, hc, hm⟩ := zo_event (μ.2.2.2.2 ((nI i) + (nI 1)).toNatClampNeg) (μ.2.2.2.2 ((nI i) + (nI 2)).toNatClampNeg) (μ.2.2.2.2 ((nI i) + (nI 3)).toNatClampNeg) τ S H μ hC hM
  obtain ⟨x9, rfl⟩ := zl_int hc zt_X8_event rfl
  refine zq_go zt_L_law 16 [vp_in ((nI i) + (nI 1)) μ.2.2.2.1, vp_in ((nI i) + (nI 2)) μ.2.2.2.1, vp_in ((nI i) + (nI 3)) μ.2.2.2.1] 403 [(0, .ref 77), (1, .ref 0), (2, .ref 50), (3, .int (nI i))] [(.int (μ.2.2.2.2 ((nI i) + (nI 3)).toNatClampNeg)), (.int (μ.2.2.2.2 ((nI i) + (nI 2)).toNatClampNeg)), (.int (μ.2.2.2.2 ((nI i) + (nI 1)).toNatClampNeg)), .ref 0] μ rfl ⟨zn_in (k := i + 1) (zn_add i 1) (by omega) (by omega), zn_in (k := i + 2) (zn_add i 2) (by omega) (by omega), zn_in (k := i + 3) (zn_add i 3) (by omega) (by omega), trivial⟩ ?_
  refine zq_call zt_L_law [.ref 0, (.int (μ.2.2.2.2 ((nI i) + (nI 1)).toNatClampNeg)), (.int (μ.2.2.2.2 ((nI i) + (nI 2)).toNatClampNeg)), (.int (μ.2.2.2.2 ((nI i) + (nI 3)).toNatClampNeg))] [] hc rfl rfl ?_
  rintro _ μ1 ⟨rfl, hC1, f1⟩
  have hM1 := hM.fr f1 zl_SC
  have e1 := f1.2
  rw [hs] at e1
  have hL1 : μ1.2.2.2.1 = L := by rw [e1]; exact hL8
  refine zq_go zt_L_law 16 [vp_in ((nI i) + (nI 1)) μ1.2.2.2.1, vp_in ((nI i) + (nI 2)) μ1.2.2.2.1, vp_in ((nI i) + (nI 3)) μ1.2.2.2.1] 422 [(0, .ref 77), (1, .ref 0), (2, .ref 50), (3, .int (nI i))] [(.int (μ1.2.2.2.2 ((nI i) + (nI 3)).toNatClampNeg)), (.int (μ1.2.2.2.2 ((nI i) + (nI 2)).toNatClampNeg)), (.int (μ1.2.2.2.2 ((nI i) + (nI 1)).toNatClampNeg)), .ref 50, .int x9] μ1 rfl ⟨zn_in (k := i + 1) (zn_add i 1) (by omega) (by omega), zn_in (k := i + 2) (zn_add i 2) (by omega) (by omega), zn_in (k := i + 3) (zn_add i 3) (by omega) (by omega), trivial⟩ ?_
  rw [show μ1.2.2.2 = μ.2.2.2 from f1.2]
  refine zq_call zt_L_law [.ref 50, (.int (μ.2.2.2.2 ((nI i) + (nI 1)).toNatClampNeg)), (.int (μ.2.2.2.2 ((nI i) + (nI 2)).toNatClampNeg)), (.int (μ.2.2.2.2 ((nI i) + (nI 3)).toNatClampNeg))] [.int x9] (hm μ1 hM1) rfl rfl ?_
  rintro _ μ2 ⟨rfl, hM2, f2⟩
  refine zq_go zt_L_law 1 [] (if x9 = x9 then 1329 else 428) [(0, .ref 77), (1, .ref 0), (2, .ref 50), (3, .int (nI i))] [] μ2 rfl trivial ?_
  rw [if_pos rfl]
  exact kk τ1 S1 H1 μ2 (hC1.fr f2 zl_SM) hM2 (by rw [f2.2, e1])
set_option maxRecDepth 100000 in
set_option maxHeartbeats 4000000 in
theorem zl_back {Q : zq_Post} {i L : Nat} {sc : Nat × (Nat → Int32)} (hL8 : sc.1 = L) (hi : i + 6 ≤ L) (hL : L ≤ 384) (kk : zlK Q i L sc) {τ : zTd} {S : zES} {H : zSH} {μ : zq_Me} (hC : zIc τ S H μ) (hM : zIm τ S H μ) (hs : μ.2.2.2 = sc) : zq_Wp zn_L_law 430 [(0, .ref 77), (1, .ref 0), (2, .ref 50), (3, .int (nI i))] [] μ Q := by
  have hL0 : μ.2.2.2.1 = L := by rw [hs]; exact hL8
  obtain ⟨r, τ1, S1, H1, hc, hm⟩ := zo_back  τ S H μ hC hM
  obtain ⟨x9, rfl⟩ := zl_int hc zt_X8_back rfl
  refine zq_go zt_L_law 1 [] 431 [(0, .ref 77), (1, .ref 0), (2, .ref 50), (3, .int (nI i))] [.ref 0] μ rfl trivial ?_
  refine zq_call zt_L_law [.ref 0] [] hc rfl rfl ?_
  rintro _ μ1 ⟨rfl, hC1, f1⟩
  have hM1 := hM.fr f1 zl_SC
  have e1 := f1.2
  rw [hs] at e1
  have hL1 : μ1.2.2.2.1 = L := by rw [e1]; exact hL8
  refine zq_go zt_L_law 1 [] 435 [(0, .ref 77), (1, .ref 0), (2, .ref 50), (3, .int (nI i))] [.ref 50, .int x9] μ1 rfl trivial ?_
  have := e1
  refine zq_call zt_L_law [.ref 50] [.int x9] (hm μ1 hM1) rfl rfl ?_
  rintro _ μ2 ⟨rfl, hM2, f2⟩
  refine zq_go zt_L_law 1 [] (if x9 = x9 then 1329 else 441) [(0, .ref 77), (1, .ref 0), (2, .ref 50), (3, .int (nI i))] [] μ2 rfl trivial ?_
  rw [if_pos rfl]
  exact kk τ1 S1 H1 μ2 (hC1.fr f2 zl_SM) hM2 (by rw [f2.2, e1])
set_option maxRecDepth 100000 in
set_option maxHeartbeats 4000000 in
theorem zl_read {Q : zq_Post} {i L : Nat} {sc : Nat × (Nat → Int32)} (hL8 : sc.1 = L) (hi : i + 6 ≤ L) (hL : L ≤ 384) (kk : zlK Q i L sc) {τ : zTd} {S : zES} {H : zSH} {μ : zq_Me} (hC : zIc τ S H μ) (hM : zIm τ S H μ) (hs : μ.2.2.2 = sc) : zq_Wp zn_L_law 443 [(0, .ref 77), (1, .ref 0), (2, .ref 50), (3, .int (nI i))] [] μ Q := by
  have hL0 : μ.2.2.2.1 = L := by rw [hs]; exact hL8
  obtain ⟨r, τ1, S1, H1, hc, hm⟩ := zo_read (μ.2.2.2.2 ((nI i) + (nI 1)).toNatClampNeg) τ S H μ hC hM
  obtain ⟨x9, rfl⟩ := zl_int hc zt_X8_read rfl
  refine zq_go zt_L_law 6 [vp_in ((nI i) + (nI 1)) μ.2.2.2.1] 449 [(0, .ref 77), (1, .ref 0), (2, .ref 50), (3, .int (nI i))] [(.int (μ.2.2.2.2 ((nI i) + (nI 1)).toNatClampNeg)), .ref 0] μ rfl ⟨zn_in (k := i + 1) (zn_add i 1) (by omega) (by omega), trivial⟩ ?_
  refine zq_call zt_L_law [.ref 0, (.int (μ.2.2.2.2 ((nI i) + (nI 1)).toNatClampNeg))] [] hc rfl rfl ?_
  rintro _ μ1 ⟨rfl, hC1, f1⟩
  have hM1 := hM.fr f1 zl_SC
  have e1 := f1.2
  rw [hs] at e1
  have hL1 : μ1.2.2.2.1 = L := by rw [e1]; exact hL8
  refine zq_go zt_L_law 6 [vp_in ((nI i) + (nI 1)) μ1.2.2.2.1] 458 [(0, .ref 77), (1, .ref 0), (2, .ref 50), (3, .int (nI i))] [(.int (μ1.2.2.2.2 ((nI i) + (nI 1)).toNatClampNeg)), .ref 50, .int x9] μ1 rfl ⟨zn_in (k := i + 1) (zn_add i 1) (by omega) (by omega), trivial⟩ ?_
  rw [show μ1.2.2.2 = μ.2.2.2 from f1.2]
  refine zq_call zt_L_law [.ref 50, (.int (μ.2.2.2.2 ((nI i) + (nI 1)).toNatClampNeg))] [.int x9] (hm μ1 hM1) rfl rfl ?_
  rintro _ μ2 ⟨rfl, hM2, f2⟩
  refine zq_go zt_L_law 1 [] (if x9 = x9 then 1329 else 464) [(0, .ref 77), (1, .ref 0), (2, .ref 50), (3, .int (nI i))] [] μ2 rfl trivial ?_
  rw [if_pos rfl]
  exact kk τ1 S1 H1 μ2 (hC1.fr f2 zl_SM) hM2 (by rw [f2.2, e1])
set_option maxRecDepth 100000 in
set_option maxHeartbeats 4000000 in
theorem zl_at {Q : zq_Post} {i L : Nat} {sc : Nat × (Nat → Int32)} (hL8 : sc.1 = L) (hi : i + 6 ≤ L) (hL : L ≤ 384) (kk : zlK Q i L sc) {τ : zTd} {S : zES} {H : zSH} {μ : zq_Me} (hC : zIc τ S H μ) (hM : zIm τ S H μ) (hs : μ.2.2.2 = sc) : zq_Wp zn_L_law 466 [(0, .ref 77), (1, .ref 0), (2, .ref 50), (3, .int (nI i))] [] μ Q := by
  have hL0 : μ.2.2.2.1 = L := by rw [hs]; exact hL8
  obtain ⟨r, τ1, S1, H1, hc, hm⟩ := zo_at (μ.2.2.2.2 ((nI i) + (nI 1)).toNatClampNeg) (μ.2.2.2.2 ((nI i) + (nI 2)).toNatClampNeg) (μ.2.2.2.2 ((nI i) + (nI 3)).toNatClampNeg) τ S H μ hC hM
  obtain ⟨x9, rfl⟩ := zl_int hc zt_X8_at rfl
  refine zq_go zt_L_law 16 [vp_in ((nI i) + (nI 1)) μ.2.2.2.1, vp_in ((nI i) + (nI 2)) μ.2.2.2.1, vp_in ((nI i) + (nI 3)) μ.2.2.2.1] 482 [(0, .ref 77), (1, .ref 0), (2, .ref 50), (3, .int (nI i))] [(.int (μ.2.2.2.2 ((nI i) + (nI 3)).toNatClampNeg)), (.int (μ.2.2.2.2 ((nI i) + (nI 2)).toNatClampNeg)), (.int (μ.2.2.2.2 ((nI i) + (nI 1)).toNatClampNeg)), .ref 0] μ rfl ⟨zn_in (k := i + 1) (zn_add i 1) (by omega) (by omega), zn_in (k := i + 2) (zn_add i 2) (by omega) (by omega), zn_in (k := i + 3) (zn_add i 3) (by omega) (by omega), trivial⟩ ?_
  refine zq_call zt_L_law [.ref 0, (.int (μ.2.2.2.2 ((nI i) + (nI 1)).toNatClampNeg)), (.int (μ.2.2.2.2 ((nI i) + (nI 2)).toNatClampNeg)), (.int (μ.2.2.2.2 ((nI i) + (nI 3)).toNatClampNeg))] [] hc rfl rfl ?_
  rintro _ μ1 ⟨rfl, hC1, f1⟩
  have hM1 := hM.fr f1 zl_SC
  have e1 := f1.2
  rw [hs] at e1
  have hL1 : μ1.2.2.2.1 = L := by rw [e1]; exact hL8
  refine zq_go zt_L_law 16 [vp_in ((nI i) + (nI 1)) μ1.2.2.2.1, vp_in ((nI i) + (nI 2)) μ1.2.2.2.1, vp_in ((nI i) + (nI 3)) μ1.2.2.2.1] 501 [(0, .ref 77), (1, .ref 0), (2, .ref 50), (3, .int (nI i))] [(.int (μ1.2.2.2.2 ((nI i) + (nI 3)).toNatClampNeg)), (.int (μ1.2.2.2.2 ((nI i) + (nI 2)).toNatClampNeg)), (.int (μ1.2.2.2.2 ((nI i) + (nI 1)).toNatClampNeg)), .ref 50, .int x9] μ1 rfl ⟨zn_in (k := i + 1) (zn_add i 1) (by omega) (by omega), zn_in (k := i + 2) (zn_add i 2) (by omega) (by omega), zn_in (k := i + 3) (zn_add i 3) (by omega) (by omega), trivial⟩ ?_
  rw [show μ1.2.2.2 = μ.2.2.2 from f1.2]
  refine zq_call zt_L_law [.ref 50, (.int (μ.2.2.2.2 ((nI i) + (nI 1)).toNatClampNeg)), (.int (μ.2.2.2.2 ((nI i) + (nI 2)).toNatClampNeg)), (.int (μ.2.2.2.2 ((nI i) + (nI 3)).toNatClampNeg))] [.int x9] (hm μ1 hM1) rfl rfl ?_
  rintro _ μ2 ⟨rfl, hM2, f2⟩
  refine zq_go zt_L_law 1 [] (if x9 = x9 then 1329 else 507) [(0, .ref 77), (1, .ref 0), (2, .ref 50), (3, .int (nI i))] [] μ2 rfl trivial ?_
  rw [if_pos rfl]
  exact kk τ1 S1 H1 μ2 (hC1.fr f2 zl_SM) hM2 (by rw [f2.2, e1])
set_option maxRecDepth 100000 in
set_option maxHeartbeats 4000000 in
theorem zl_room {Q : zq_Post} {i L : Nat} {sc : Nat × (Nat → Int32)} (hL8 : sc.1 = L) (hi : i + 6 ≤ L) (hL : L ≤ 384) (kk : zlK Q i L sc) {τ : zTd} {S : zES} {H : zSH} {μ : zq_Me} (hC : zIc τ S H μ) (hM : zIm τ S H μ) (hs : μ.2.2.2 = sc) : zq_Wp zn_L_law 509 [(0, .ref 77), (1, .ref 0), (2, .ref 50), (3, .int (nI i))] [] μ Q := by
  have hL0 : μ.2.2.2.1 = L := by rw [hs]; exact hL8
  obtain ⟨r, τ1, S1, H1, hc, hm⟩ := zo_room (μ.2.2.2.2 ((nI i) + (nI 1)).toNatClampNeg) (μ.2.2.2.2 ((nI i) + (nI 2)).toNatClampNeg) τ S H μ hC hM
  obtain ⟨x9, rfl⟩ := zl_int hc zt_X8_room rfl
  refine zq_go zt_L_law 11 [vp_in ((nI i) + (nI 1)) μ.2.2.2.1, vp_in ((nI i) + (nI 2)) μ.2.2.2.1] 520 [(0, .ref 77), (1, .ref 0), (2, .ref 50), (3, .int (nI i))] [(.int (μ.2.2.2.2 ((nI i) + (nI 2)).toNatClampNeg)), (.int (μ.2.2.2.2 ((nI i) + (nI 1)).toNatClampNeg)), .ref 0] μ rfl ⟨zn_in (k := i + 1) (zn_add i 1) (by omega) (by omega), zn_in (k := i + 2) (zn_add i 2) (by omega) (by omega), trivial⟩ ?_
  refine zq_call zt_L_law [.ref 0, (.int (μ.2.2.2.2 ((nI i) + (nI 1)).toNatClampNeg)), (.int (μ.2.2.2.2 ((nI i) + (nI 2)).toNatClampNeg))] [] hc rfl rfl ?_
  rintro _ μ1 ⟨rfl, hC1, f1⟩
  have hM1 := hM.fr f1 zl_SC
  have e1 := f1.2
  rw [hs] at e1
  have hL1 : μ1.2.2.2.1 = L := by rw [e1]; exact hL8
  refine zq_go zt_L_law 11 [vp_in ((nI i) + (nI 1)) μ1.2.2.2.1, vp_in ((nI i) + (nI 2)) μ1.2.2.2.1] 534 [(0, .ref 77), (1, .ref 0), (2, .ref 50), (3, .int (nI i))] [(.int (μ1.2.2.2.2 ((nI i) + (nI 2)).toNatClampNeg)), (.int (μ1.2.2.2.2 ((nI i) + (nI 1)).toNatClampNeg)), .ref 50, .int x9] μ1 rfl ⟨zn_in (k := i + 1) (zn_add i 1) (by omega) (by omega), zn_in (k := i + 2) (zn_add i 2) (by omega) (by omega), trivial⟩ ?_
  rw [show μ1.2.2.2 = μ.2.2.2 from f1.2]
  refine zq_call zt_L_law [.ref 50, (.int (μ.2.2.2.2 ((nI i) + (nI 1)).toNatClampNeg)), (.int (μ.2.2.2.2 ((nI i) + (nI 2)).toNatClampNeg))] [.int x9] (hm μ1 hM1) rfl rfl ?_
  rintro _ μ2 ⟨rfl, hM2, f2⟩
  refine zq_go zt_L_law 1 [] (if x9 = x9 then 1329 else 540) [(0, .ref 77), (1, .ref 0), (2, .ref 50), (3, .int (nI i))] [] μ2 rfl trivial ?_
  rw [if_pos rfl]
  exact kk τ1 S1 H1 μ2 (hC1.fr f2 zl_SM) hM2 (by rw [f2.2, e1])
set_option maxRecDepth 100000 in
set_option maxHeartbeats 4000000 in
theorem zl_far {Q : zq_Post} {i L : Nat} {sc : Nat × (Nat → Int32)} (hL8 : sc.1 = L) (hi : i + 6 ≤ L) (hL : L ≤ 384) (kk : zlK Q i L sc) {τ : zTd} {S : zES} {H : zSH} {μ : zq_Me} (hC : zIc τ S H μ) (hM : zIm τ S H μ) (hs : μ.2.2.2 = sc) : zq_Wp zn_L_law 542 [(0, .ref 77), (1, .ref 0), (2, .ref 50), (3, .int (nI i))] [] μ Q := by
  have hL0 : μ.2.2.2.1 = L := by rw [hs]; exact hL8
  obtain ⟨r, τ1, S1, H1, hc, hm⟩ := zo_far (μ.2.2.2.2 ((nI i) + (nI 1)).toNatClampNeg) (μ.2.2.2.2 ((nI i) + (nI 2)).toNatClampNeg) (μ.2.2.2.2 ((nI i) + (nI 3)).toNatClampNeg) τ S H μ hC hM
  obtain ⟨x9, rfl⟩ := zl_int hc zt_X8_far rfl
  refine zq_go zt_L_law 16 [vp_in ((nI i) + (nI 1)) μ.2.2.2.1, vp_in ((nI i) + (nI 2)) μ.2.2.2.1, vp_in ((nI i) + (nI 3)) μ.2.2.2.1] 558 [(0, .ref 77), (1, .ref 0), (2, .ref 50), (3, .int (nI i))] [(.int (μ.2.2.2.2 ((nI i) + (nI 3)).toNatClampNeg)), (.int (μ.2.2.2.2 ((nI i) + (nI 2)).toNatClampNeg)), (.int (μ.2.2.2.2 ((nI i) + (nI 1)).toNatClampNeg)), .ref 0] μ rfl ⟨zn_in (k := i + 1) (zn_add i 1) (by omega) (by omega), zn_in (k := i + 2) (zn_add i 2) (by omega) (by omega), zn_in (k := i + 3) (zn_add i 3) (by omega) (by omega), trivial⟩ ?_
  refine zq_call zt_L_law [.ref 0, (.int (μ.2.2.2.2 ((nI i) + (nI 1)).toNatClampNeg)), (.int (μ.2.2.2.2 ((nI i) + (nI 2)).toNatClampNeg)), (.int (μ.2.2.2.2 ((nI i) + (nI 3)).toNatClampNeg))] [] hc rfl rfl ?_
  rintro _ μ1 ⟨rfl, hC1, f1⟩
  have hM1 := hM.fr f1 zl_SC
  have e1 := f1.2
  rw [hs] at e1
  have hL1 : μ1.2.2.2.1 = L := by rw [e1]; exact hL8
  refine zq_go zt_L_law 16 [vp_in ((nI i) + (nI 1)) μ1.2.2.2.1, vp_in ((nI i) + (nI 2)) μ1.2.2.2.1, vp_in ((nI i) + (nI 3)) μ1.2.2.2.1] 577 [(0, .ref 77), (1, .ref 0), (2, .ref 50), (3, .int (nI i))] [(.int (μ1.2.2.2.2 ((nI i) + (nI 3)).toNatClampNeg)), (.int (μ1.2.2.2.2 ((nI i) + (nI 2)).toNatClampNeg)), (.int (μ1.2.2.2.2 ((nI i) + (nI 1)).toNatClampNeg)), .ref 50, .int x9] μ1 rfl ⟨zn_in (k := i + 1) (zn_add i 1) (by omega) (by omega), zn_in (k := i + 2) (zn_add i 2) (by omega) (by omega), zn_in (k := i + 3) (zn_add i 3) (by omega) (by omega), trivial⟩ ?_
  rw [show μ1.2.2.2 = μ.2.2.2 from f1.2]
  refine zq_call zt_L_law [.ref 50, (.int (μ.2.2.2.2 ((nI i) + (nI 1)).toNatClampNeg)), (.int (μ.2.2.2.2 ((nI i) + (nI 2)).toNatClampNeg)), (.int (μ.2.2.2.2 ((nI i) + (nI 3)).toNatClampNeg))] [.int x9] (hm μ1 hM1) rfl rfl ?_
  rintro _ μ2 ⟨rfl, hM2, f2⟩
  refine zq_go zt_L_law 1 [] (if x9 = x9 then 1329 else 583) [(0, .ref 77), (1, .ref 0), (2, .ref 50), (3, .int (nI i))] [] μ2 rfl trivial ?_
  rw [if_pos rfl]
  exact kk τ1 S1 H1 μ2 (hC1.fr f2 zl_SM) hM2 (by rw [f2.2, e1])
set_option maxRecDepth 100000 in
set_option maxHeartbeats 4000000 in
theorem zl_meet {Q : zq_Post} {i L : Nat} {sc : Nat × (Nat → Int32)} (hL8 : sc.1 = L) (hi : i + 6 ≤ L) (hL : L ≤ 384) (kk : zlK Q i L sc) {τ : zTd} {S : zES} {H : zSH} {μ : zq_Me} (hC : zIc τ S H μ) (hM : zIm τ S H μ) (hs : μ.2.2.2 = sc) : zq_Wp zn_L_law 585 [(0, .ref 77), (1, .ref 0), (2, .ref 50), (3, .int (nI i))] [] μ Q := by
  have hL0 : μ.2.2.2.1 = L := by rw [hs]; exact hL8
  obtain ⟨r, τ1, S1, H1, hc, hm⟩ := zo_meet (μ.2.2.2.2 ((nI i) + (nI 1)).toNatClampNeg) (μ.2.2.2.2 ((nI i) + (nI 2)).toNatClampNeg) τ S H μ hC hM
  obtain ⟨x9, rfl⟩ := zl_int hc zt_X8_meet rfl
  refine zq_go zt_L_law 11 [vp_in ((nI i) + (nI 1)) μ.2.2.2.1, vp_in ((nI i) + (nI 2)) μ.2.2.2.1] 596 [(0, .ref 77), (1, .ref 0), (2, .ref 50), (3, .int (nI i))] [(.int (μ.2.2.2.2 ((nI i) + (nI 2)).toNatClampNeg)), (.int (μ.2.2.2.2 ((nI i) + (nI 1)).toNatClampNeg)), .ref 0] μ rfl ⟨zn_in (k := i + 1) (zn_add i 1) (by omega) (by omega), zn_in (k := i + 2) (zn_add i 2) (by omega) (by omega), trivial⟩ ?_
  refine zq_call zt_L_law [.ref 0, (.int (μ.2.2.2.2 ((nI i) + (nI 1)).toNatClampNeg)), (.int (μ.2.2.2.2 ((nI i) + (nI 2)).toNatClampNeg))] [] hc rfl rfl ?_
  rintro _ μ1 ⟨rfl, hC1, f1⟩
  have hM1 := hM.fr f1 zl_SC
  have e1 := f1.2
  rw [hs] at e1
  have hL1 : μ1.2.2.2.1 = L := by rw [e1]; exact hL8
  refine zq_go zt_L_law 11 [vp_in ((nI i) + (nI 1)) μ1.2.2.2.1, vp_in ((nI i) + (nI 2)) μ1.2.2.2.1] 610 [(0, .ref 77), (1, .ref 0), (2, .ref 50), (3, .int (nI i))] [(.int (μ1.2.2.2.2 ((nI i) + (nI 2)).toNatClampNeg)), (.int (μ1.2.2.2.2 ((nI i) + (nI 1)).toNatClampNeg)), .ref 50, .int x9] μ1 rfl ⟨zn_in (k := i + 1) (zn_add i 1) (by omega) (by omega), zn_in (k := i + 2) (zn_add i 2) (by omega) (by omega), trivial⟩ ?_
  rw [show μ1.2.2.2 = μ.2.2.2 from f1.2]
  refine zq_call zt_L_law [.ref 50, (.int (μ.2.2.2.2 ((nI i) + (nI 1)).toNatClampNeg)), (.int (μ.2.2.2.2 ((nI i) + (nI 2)).toNatClampNeg))] [.int x9] (hm μ1 hM1) rfl rfl ?_
  rintro _ μ2 ⟨rfl, hM2, f2⟩
  refine zq_go zt_L_law 1 [] (if x9 = x9 then 1329 else 616) [(0, .ref 77), (1, .ref 0), (2, .ref 50), (3, .int (nI i))] [] μ2 rfl trivial ?_
  rw [if_pos rfl]
  exact kk τ1 S1 H1 μ2 (hC1.fr f2 zl_SM) hM2 (by rw [f2.2, e1])
set_option maxRecDepth 100000 in
set_option maxHeartbeats 4000000 in
theorem zl_empty {Q : zq_Post} {i L : Nat} {sc : Nat × (Nat → Int32)} (hL8 : sc.1 = L) (hi : i + 6 ≤ L) (hL : L ≤ 384) (kk : zlK Q i L sc) {τ : zTd} {S : zES} {H : zSH} {μ : zq_Me} (hC : zIc τ S H μ) (hM : zIm τ S H μ) (hs : μ.2.2.2 = sc) : zq_Wp zn_L_law 618 [(0, .ref 77), (1, .ref 0), (2, .ref 50), (3, .int (nI i))] [] μ Q := by
  have hL0 : μ.2.2.2.1 = L := by rw [hs]; exact hL8
  obtain ⟨r, τ1, S1, H1, hc, hm⟩ := zo_empty (μ.2.2.2.2 ((nI i) + (nI 1)).toNatClampNeg) τ S H μ hC hM
  obtain ⟨x9, rfl⟩ := zl_int hc zt_X8_empty rfl
  refine zq_go zt_L_law 6 [vp_in ((nI i) + (nI 1)) μ.2.2.2.1] 624 [(0, .ref 77), (1, .ref 0), (2, .ref 50), (3, .int (nI i))] [(.int (μ.2.2.2.2 ((nI i) + (nI 1)).toNatClampNeg)), .ref 0] μ rfl ⟨zn_in (k := i + 1) (zn_add i 1) (by omega) (by omega), trivial⟩ ?_
  refine zq_call zt_L_law [.ref 0, (.int (μ.2.2.2.2 ((nI i) + (nI 1)).toNatClampNeg))] [] hc rfl rfl ?_
  rintro _ μ1 ⟨rfl, hC1, f1⟩
  have hM1 := hM.fr f1 zl_SC
  have e1 := f1.2
  rw [hs] at e1
  have hL1 : μ1.2.2.2.1 = L := by rw [e1]; exact hL8
  refine zq_go zt_L_law 6 [vp_in ((nI i) + (nI 1)) μ1.2.2.2.1] 633 [(0, .ref 77), (1, .ref 0), (2, .ref 50), (3, .int (nI i))] [(.int (μ1.2.2.2.2 ((nI i) + (nI 1)).toNatClampNeg)), .ref 50, .int x9] μ1 rfl ⟨zn_in (k := i + 1) (zn_add i 1) (by omega) (by omega), trivial⟩ ?_
  rw [show μ1.2.2.2 = μ.2.2.2 from f1.2]
  refine zq_call zt_L_law [.ref 50, (.int (μ.2.2.2.2 ((nI i) + (nI 1)).toNatClampNeg))] [.int x9] (hm μ1 hM1) rfl rfl ?_
  rintro _ μ2 ⟨rfl, hM2, f2⟩
  refine zq_go zt_L_law 1 [] (if x9 = x9 then 1329 else 639) [(0, .ref 77), (1, .ref 0), (2, .ref 50), (3, .int (nI i))] [] μ2 rfl trivial ?_
  rw [if_pos rfl]
  exact kk τ1 S1 H1 μ2 (hC1.fr f2 zl_SM) hM2 (by rw [f2.2, e1])
set_option maxRecDepth 100000 in
set_option maxHeartbeats 4000000 in
theorem zl_found {Q : zq_Post} {i L : Nat} {sc : Nat × (Nat → Int32)} (hL8 : sc.1 = L) (hi : i + 6 ≤ L) (hL : L ≤ 384) (kk : zlK Q i L sc) {τ : zTd} {S : zES} {H : zSH} {μ : zq_Me} (hC : zIc τ S H μ) (hM : zIm τ S H μ) (hs : μ.2.2.2 = sc) : zq_Wp zn_L_law 641 [(0, .ref 77), (1, .ref 0), (2, .ref 50), (3, .int (nI i))] [] μ Q := by
  have hL0 : μ.2.2.2.1 = L := by rw [hs]; exact hL8
  obtain ⟨r, τ1, S1, H1, hc, hm⟩ := zo_found (μ.2.2.2.2 ((nI i) + (nI 1)).toNatClampNeg) τ S H μ hC hM
  obtain ⟨x9, rfl⟩ := zl_int hc zt_X8_found rfl
  refine zq_go zt_L_law 6 [vp_in ((nI i) + (nI 1)) μ.2.2.2.1] 647 [(0, .ref 77), (1, .ref 0), (2, .ref 50), (3, .int (nI i))] [(.int (μ.2.2.2.2 ((nI i) + (nI 1)).toNatClampNeg)), .ref 0] μ rfl ⟨zn_in (k := i + 1) (zn_add i 1) (by omega) (by omega), trivial⟩ ?_
  refine zq_call zt_L_law [.ref 0, (.int (μ.2.2.2.2 ((nI i) + (nI 1)).toNatClampNeg))] [] hc rfl rfl ?_
  rintro _ μ1 ⟨rfl, hC1, f1⟩
  have hM1 := hM.fr f1 zl_SC
  have e1 := f1.2
  rw [hs] at e1
  have hL1 : μ1.2.2.2.1 = L := by rw [e1]; exact hL8
  refine zq_go zt_L_law 6 [vp_in ((nI i) + (nI 1)) μ1.2.2.2.1] 656 [(0, .ref 77), (1, .ref 0), (2, .ref 50), (3, .int (nI i))] [(.int (μ1.2.2.2.2 ((nI i) + (nI 1)).toNatClampNeg)), .ref 50, .int x9] μ1 rfl ⟨zn_in (k := i + 1) (zn_add i 1) (by omega) (by omega), trivial⟩ ?_
  rw [show μ1.2.2.2 = μ.2.2.2 from f1.2]
  refine zq_call zt_L_law [.ref 50, (.int (μ.2.2.2.2 ((nI i) + (nI 1)).toNatClampNeg))] [.int x9] (hm μ1 hM1) rfl rfl ?_
  rintro _ μ2 ⟨rfl, hM2, f2⟩
  refine zq_go zt_L_law 1 [] (if x9 = x9 then 1329 else 662) [(0, .ref 77), (1, .ref 0), (2, .ref 50), (3, .int (nI i))] [] μ2 rfl trivial ?_
  rw [if_pos rfl]
  exact kk τ1 S1 H1 μ2 (hC1.fr f2 zl_SM) hM2 (by rw [f2.2, e1])
set_option maxRecDepth 100000 in
set_option maxHeartbeats 4000000 in
theorem zl_crowd {Q : zq_Post} {i L : Nat} {sc : Nat × (Nat → Int32)} (hL8 : sc.1 = L) (hi : i + 6 ≤ L) (hL : L ≤ 384) (kk : zlK Q i L sc) {τ : zTd} {S : zES} {H : zSH} {μ : zq_Me} (hC : zIc τ S H μ) (hM : zIm τ S H μ) (hs : μ.2.2.2 = sc) : zq_Wp zn_L_law 664 [(0, .ref 77), (1, .ref 0), (2, .ref 50), (3, .int (nI i))] [] μ Q := by
  have hL0 : μ.2.2.2.1 = L := by rw [hs]; exact hL8
  obtain ⟨r, τ1, S1, H1, hc, hm⟩ := zo_crowd (μ.2.2.2.2 ((nI i) + (nI 1)).toNatClampNeg) τ S H μ hC hM
  obtain ⟨x9, rfl⟩ := zl_int hc zt_X8_crowd rfl
  refine zq_go zt_L_law 6 [vp_in ((nI i) + (nI 1)) μ.2.2.2.1] 670 [(0, .ref 77), (1, .ref 0), (2, .ref 50), (3, .int (nI i))] [(.int (μ.2.2.2.2 ((nI i) + (nI 1)).toNatClampNeg)), .ref 0] μ rfl ⟨zn_in (k := i + 1) (zn_add i 1) (by omega) (by omega), trivial⟩ ?_
  refine zq_call zt_L_law [.ref 0, (.int (μ.2.2.2.2 ((nI i) + (nI 1)).toNatClampNeg))] [] hc rfl rfl ?_
  rintro _ μ1 ⟨rfl, hC1, f1⟩
  have hM1 := hM.fr f1 zl_SC
  have e1 := f1.2
  rw [hs] at e1
  have hL1 : μ1.2.2.2.1 = L := by rw [e1]; exact hL8
  refine zq_go zt_L_law 6 [vp_in ((nI i) + (nI 1)) μ1.2.2.2.1] 679 [(0, .ref 77), (1, .ref 0), (2, .ref 50), (3, .int (nI i))] [(.int (μ1.2.2.2.2 ((nI i) + (nI 1)).toNatClampNeg)), .ref 50, .int x9] μ1 rfl ⟨zn_in (k := i + 1) (zn_add i 1) (by omega) (by omega), trivial⟩ ?_
  rw [show μ1.2.2.2 = μ.2.2.2 from f1.2]
  refine zq_call zt_L_law [.ref 50, (.int (μ.2.2.2.2 ((nI i) + (nI 1)).toNatClampNeg))] [.int x9] (hm μ1 hM1) rfl rfl ?_
  rintro _ μ2 ⟨rfl, hM2, f2⟩
  refine zq_go zt_L_law 1 [] (if x9 = x9 then 1329 else 685) [(0, .ref 77), (1, .ref 0), (2, .ref 50), (3, .int (nI i))] [] μ2 rfl trivial ?_
  rw [if_pos rfl]
  exact kk τ1 S1 H1 μ2 (hC1.fr f2 zl_SM) hM2 (by rw [f2.2, e1])
set_option maxRecDepth 100000 in
set_option maxHeartbeats 4000000 in
theorem zl_alone {Q : zq_Post} {i L : Nat} {sc : Nat × (Nat → Int32)} (hL8 : sc.1 = L) (hi : i + 6 ≤ L) (hL : L ≤ 384) (kk : zlK Q i L sc) {τ : zTd} {S : zES} {H : zSH} {μ : zq_Me} (hC : zIc τ S H μ) (hM : zIm τ S H μ) (hs : μ.2.2.2 = sc) : zq_Wp zn_L_law 687 [(0, .ref 77), (1, .ref 0), (2, .ref 50), (3, .int (nI i))] [] μ Q := by
  have hL0 : μ.2.2.2.1 = L := by rw [hs]; exact hL8
  obtain ⟨r, τ1, S1, H1, hc, hm⟩ := zo_alone  τ S H μ hC hM
  obtain ⟨x9, rfl⟩ := zl_int hc zt_X8_alone rfl
  refine zq_go zt_L_law 1 [] 688 [(0, .ref 77), (1, .ref 0), (2, .ref 50), (3, .int (nI i))] [.ref 0] μ rfl trivial ?_
  refine zq_call zt_L_law [.ref 0] [] hc rfl rfl ?_
  rintro _ μ1 ⟨rfl, hC1, f1⟩
  have hM1 := hM.fr f1 zl_SC
  have e1 := f1.2
  rw [hs] at e1
  have hL1 : μ1.2.2.2.1 = L := by rw [e1]; exact hL8
  refine zq_go zt_L_law 1 [] 692 [(0, .ref 77), (1, .ref 0), (2, .ref 50), (3, .int (nI i))] [.ref 50, .int x9] μ1 rfl trivial ?_
  have := e1
  refine zq_call zt_L_law [.ref 50] [.int x9] (hm μ1 hM1) rfl rfl ?_
  rintro _ μ2 ⟨rfl, hM2, f2⟩
  refine zq_go zt_L_law 1 [] (if x9 = x9 then 1329 else 698) [(0, .ref 77), (1, .ref 0), (2, .ref 50), (3, .int (nI i))] [] μ2 rfl trivial ?_
  rw [if_pos rfl]
  exact kk τ1 S1 H1 μ2 (hC1.fr f2 zl_SM) hM2 (by rw [f2.2, e1])
set_option maxRecDepth 100000 in
set_option maxHeartbeats 4000000 in
theorem zl_sleep {Q : zq_Post} {i L : Nat} {sc : Nat × (Nat → Int32)} (hL8 : sc.1 = L) (hi : i + 6 ≤ L) (hL : L ≤ 384) (kk : zlK Q i L sc) {τ : zTd} {S : zES} {H : zSH} {μ : zq_Me} (hC : zIc τ S H μ) (hM : zIm τ S H μ) (hs : μ.2.2.2 = sc) : zq_Wp zn_L_law 700 [(0, .ref 77), (1, .ref 0), (2, .ref 50), (3, .int (nI i))] [] μ Q := by
  have hL0 : μ.2.2.2.1 = L := by rw [hs]; exact hL8
  obtain ⟨r, τ1, S1, H1, hc, hm⟩ := zo_sleep (μ.2.2.2.2 ((nI i) + (nI 1)).toNatClampNeg) (μ.2.2.2.2 ((nI i) + (nI 2)).toNatClampNeg) τ S H μ hC hM
  obtain ⟨x9, rfl⟩ := zl_int hc zt_X8_sleep rfl
  refine zq_go zt_L_law 11 [vp_in ((nI i) + (nI 1)) μ.2.2.2.1, vp_in ((nI i) + (nI 2)) μ.2.2.2.1] 711 [(0, .ref 77), (1, .ref 0), (2, .ref 50), (3, .int (nI i))] [(.int (μ.2.2.2.2 ((nI i) + (nI 2)).toNatClampNeg)), (.int (μ.2.2.2.2 ((nI i) + (nI 1)).toNatClampNeg)), .ref 0] μ rfl ⟨zn_in (k := i + 1) (zn_add i 1) (by omega) (by omega), zn_in (k := i + 2) (zn_add i 2) (by omega) (by omega), trivial⟩ ?_
  refine zq_call zt_L_law [.ref 0, (.int (μ.2.2.2.2 ((nI i) + (nI 1)).toNatClampNeg)), (.int (μ.2.2.2.2 ((nI i) + (nI 2)).toNatClampNeg))] [] hc rfl rfl ?_
  rintro _ μ1 ⟨rfl, hC1, f1⟩
  have hM1 := hM.fr f1 zl_SC
  have e1 := f1.2
  rw [hs] at e1
  have hL1 : μ1.2.2.2.1 = L := by rw [e1]; exact hL8
  refine zq_go zt_L_law 11 [vp_in ((nI i) + (nI 1)) μ1.2.2.2.1, vp_in ((nI i) + (nI 2)) μ1.2.2.2.1] 725 [(0, .ref 77), (1, .ref 0), (2, .ref 50), (3, .int (nI i))] [(.int (μ1.2.2.2.2 ((nI i) + (nI 2)).toNatClampNeg)), (.int (μ1.2.2.2.2 ((nI i) + (nI 1)).toNatClampNeg)), .ref 50, .int x9] μ1 rfl ⟨zn_in (k := i + 1) (zn_add i 1) (by omega) (by omega), zn_in (k := i + 2) (zn_add i 2) (by omega) (by omega), trivial⟩ ?_
  rw [show μ1.2.2.2 = μ.2.2.2 from f1.2]
  refine zq_call zt_L_law [.ref 50, (.int (μ.2.2.2.2 ((nI i) + (nI 1)).toNatClampNeg)), (.int (μ.2.2.2.2 ((nI i) + (nI 2)).toNatClampNeg))] [.int x9] (hm μ1 hM1) rfl rfl ?_
  rintro _ μ2 ⟨rfl, hM2, f2⟩
  refine zq_go zt_L_law 1 [] (if x9 = x9 then 1329 else 731) [(0, .ref 77), (1, .ref 0), (2, .ref 50), (3, .int (nI i))] [] μ2 rfl trivial ?_
  rw [if_pos rfl]
  exact kk τ1 S1 H1 μ2 (hC1.fr f2 zl_SM) hM2 (by rw [f2.2, e1])
set_option maxRecDepth 100000 in
set_option maxHeartbeats 4000000 in
theorem zl_nice {Q : zq_Post} {i L : Nat} {sc : Nat × (Nat → Int32)} (hL8 : sc.1 = L) (hi : i + 6 ≤ L) (hL : L ≤ 384) (kk : zlK Q i L sc) {τ : zTd} {S : zES} {H : zSH} {μ : zq_Me} (hC : zIc τ S H μ) (hM : zIm τ S H μ) (hs : μ.2.2.2 = sc) : zq_Wp zn_L_law 733 [(0, .ref 77), (1, .ref 0), (2, .ref 50), (3, .int (nI i))] [] μ Q := by
  have hL0 : μ.2.2.2.1 = L := by rw [hs]; exact hL8
  obtain ⟨r, τ1, S1, H1, hc, hm⟩ := zo_nice (μ.2.2.2.2 ((nI i) + (nI 1)).toNatClampNeg) (μ.2.2.2.2 ((nI i) + (nI 2)).toNatClampNeg) τ S H μ hC hM
  obtain ⟨x9, rfl⟩ := zl_int hc zt_X8_nice rfl
  refine zq_go zt_L_law 11 [vp_in ((nI i) + (nI 1)) μ.2.2.2.1, vp_in ((nI i) + (nI 2)) μ.2.2.2.1] 744 [(0, .ref 77), (1, .ref 0), (2, .ref 50), (3, .int (nI i))] [(.int (μ.2.2.2.2 ((nI i) + (nI 2)).toNatClampNeg)), (.int (μ.2.2.2.2 ((nI i) + (nI 1)).toNatClampNeg)), .ref 0] μ rfl ⟨zn_in (k := i + 1) (zn_add i 1) (by omega) (by omega), zn_in (k := i + 2) (zn_add i 2) (by omega) (by omega), trivial⟩ ?_
  refine zq_call zt_L_law [.ref 0, (.int (μ.2.2.2.2 ((nI i) + (nI 1)).toNatClampNeg)), (.int (μ.2.2.2.2 ((nI i) + (nI 2)).toNatClampNeg))] [] hc rfl rfl ?_
  rintro _ μ1 ⟨rfl, hC1, f1⟩
  have hM1 := hM.fr f1 zl_SC
  have e1 := f1.2
  rw [hs] at e1
  have hL1 : μ1.2.2.2.1 = L := by rw [e1]; exact hL8
  refine zq_go zt_L_law 11 [vp_in ((nI i) + (nI 1)) μ1.2.2.2.1, vp_in ((nI i) + (nI 2)) μ1.2.2.2.1] 758 [(0, .ref 77), (1, .ref 0), (2, .ref 50), (3, .int (nI i))] [(.int (μ1.2.2.2.2 ((nI i) + (nI 2)).toNatClampNeg)), (.int (μ1.2.2.2.2 ((nI i) + (nI 1)).toNatClampNeg)), .ref 50, .int x9] μ1 rfl ⟨zn_in (k := i + 1) (zn_add i 1) (by omega) (by omega), zn_in (k := i + 2) (zn_add i 2) (by omega) (by omega), trivial⟩ ?_
  rw [show μ1.2.2.2 = μ.2.2.2 from f1.2]
  refine zq_call zt_L_law [.ref 50, (.int (μ.2.2.2.2 ((nI i) + (nI 1)).toNatClampNeg)), (.int (μ.2.2.2.2 ((nI i) + (nI 2)).toNatClampNeg))] [.int x9] (hm μ1 hM1) rfl rfl ?_
  rintro _ μ2 ⟨rfl, hM2, f2⟩
  refine zq_go zt_L_law 1 [] (if x9 = x9 then 1329 else 764) [(0, .ref 77), (1, .ref 0), (2, .ref 50), (3, .int (nI i))] [] μ2 rfl trivial ?_
  rw [if_pos rfl]
  exact kk τ1 S1 H1 μ2 (hC1.fr f2 zl_SM) hM2 (by rw [f2.2, e1])
set_option maxRecDepth 100000 in
set_option maxHeartbeats 4000000 in
theorem zl_lens {Q : zq_Post} {i L : Nat} {sc : Nat × (Nat → Int32)} (hL8 : sc.1 = L) (hi : i + 6 ≤ L) (hL : L ≤ 384) (kk : zlK Q i L sc) {τ : zTd} {S : zES} {H : zSH} {μ : zq_Me} (hC : zIc τ S H μ) (hM : zIm τ S H μ) (hs : μ.2.2.2 = sc) : zq_Wp zn_L_law 766 [(0, .ref 77), (1, .ref 0), (2, .ref 50), (3, .int (nI i))] [] μ Q := by
  have hL0 : μ.2.2.2.1 = L := by rw [hs]; exact hL8
  obtain ⟨r, τ1, S1, H1, hc, hm⟩ := zo_lens (μ.2.2.2.2 ((nI i) + (nI 1)).toNatClampNeg) τ S H μ hC hM
  obtain ⟨x9, rfl⟩ := zl_int hc zt_X8_lens rfl
  refine zq_go zt_L_law 6 [vp_in ((nI i) + (nI 1)) μ.2.2.2.1] 772 [(0, .ref 77), (1, .ref 0), (2, .ref 50), (3, .int (nI i))] [(.int (μ.2.2.2.2 ((nI i) + (nI 1)).toNatClampNeg)), .ref 0] μ rfl ⟨zn_in (k := i + 1) (zn_add i 1) (by omega) (by omega), trivial⟩ ?_
  refine zq_call zt_L_law [.ref 0, (.int (μ.2.2.2.2 ((nI i) + (nI 1)).toNatClampNeg))] [] hc rfl rfl ?_
  rintro _ μ1 ⟨rfl, hC1, f1⟩
  have hM1 := hM.fr f1 zl_SC
  have e1 := f1.2
  rw [hs] at e1
  have hL1 : μ1.2.2.2.1 = L := by rw [e1]; exact hL8
  refine zq_go zt_L_law 6 [vp_in ((nI i) + (nI 1)) μ1.2.2.2.1] 781 [(0, .ref 77), (1, .ref 0), (2, .ref 50), (3, .int (nI i))] [(.int (μ1.2.2.2.2 ((nI i) + (nI 1)).toNatClampNeg)), .ref 50, .int x9] μ1 rfl ⟨zn_in (k := i + 1) (zn_add i 1) (by omega) (by omega), trivial⟩ ?_
  rw [show μ1.2.2.2 = μ.2.2.2 from f1.2]
  refine zq_call zt_L_law [.ref 50, (.int (μ.2.2.2.2 ((nI i) + (nI 1)).toNatClampNeg))] [.int x9] (hm μ1 hM1) rfl rfl ?_
  rintro _ μ2 ⟨rfl, hM2, f2⟩
  refine zq_go zt_L_law 1 [] (if x9 = x9 then 1329 else 787) [(0, .ref 77), (1, .ref 0), (2, .ref 50), (3, .int (nI i))] [] μ2 rfl trivial ?_
  rw [if_pos rfl]
  exact kk τ1 S1 H1 μ2 (hC1.fr f2 zl_SM) hM2 (by rw [f2.2, e1])
set_option maxRecDepth 100000 in
set_option maxHeartbeats 4000000 in
theorem zl_spare {Q : zq_Post} {i L : Nat} {sc : Nat × (Nat → Int32)} (hL8 : sc.1 = L) (hi : i + 6 ≤ L) (hL : L ≤ 384) (kk : zlK Q i L sc) {τ : zTd} {S : zES} {H : zSH} {μ : zq_Me} (hC : zIc τ S H μ) (hM : zIm τ S H μ) (hs : μ.2.2.2 = sc) : zq_Wp zn_L_law 789 [(0, .ref 77), (1, .ref 0), (2, .ref 50), (3, .int (nI i))] [] μ Q := by
  have hL0 : μ.2.2.2.1 = L := by rw [hs]; exact hL8
  obtain ⟨r, τ1, S1, H1, hc, hm⟩ := zo_spare (μ.2.2.2.2 ((nI i) + (nI 1)).toNatClampNeg) τ S H μ hC hM
  obtain ⟨x9, rfl⟩ := zl_int hc zt_X8_spare rfl
  refine zq_go zt_L_law 6 [vp_in ((nI i) + (nI 1)) μ.2.2.2.1] 795 [(0, .ref 77), (1, .ref 0), (2, .ref 50), (3, .int (nI i))] [(.int (μ.2.2.2.2 ((nI i) + (nI 1)).toNatClampNeg)), .ref 0] μ rfl ⟨zn_in (k := i + 1) (zn_add i 1) (by omega) (by omega), trivial⟩ ?_
  refine zq_call zt_L_law [.ref 0, (.int (μ.2.2.2.2 ((nI i) + (nI 1)).toNatClampNeg))] [] hc rfl rfl ?_
  rintro _ μ1 ⟨rfl, hC1, f1⟩
  have hM1 := hM.fr f1 zl_SC
  have e1 := f1.2
  rw [hs] at e1
  have hL1 : μ1.2.2.2.1 = L := by rw [e1]; exact hL8
  refine zq_go zt_L_law 6 [vp_in ((nI i) + (nI 1)) μ1.2.2.2.1] 804 [(0, .ref 77), (1, .ref 0), (2, .ref 50), (3, .int (nI i))] [(.int (μ1.2.2.2.2 ((nI i) + (nI 1)).toNatClampNeg)), .ref 50, .int x9] μ1 rfl ⟨zn_in (k := i + 1) (zn_add i 1) (by omega) (by omega), trivial⟩ ?_
  rw [show μ1.2.2.2 = μ.2.2.2 from f1.2]
  refine zq_call zt_L_law [.ref 50, (.int (μ.2.2.2.2 ((nI i) + (nI 1)).toNatClampNeg))] [.int x9] (hm μ1 hM1) rfl rfl ?_
  rintro _ μ2 ⟨rfl, hM2, f2⟩
  refine zq_go zt_L_law 1 [] (if x9 = x9 then 1329 else 810) [(0, .ref 77), (1, .ref 0), (2, .ref 50), (3, .int (nI i))] [] μ2 rfl trivial ?_
  rw [if_pos rfl]
  exact kk τ1 S1 H1 μ2 (hC1.fr f2 zl_SM) hM2 (by rw [f2.2, e1])
set_option maxRecDepth 100000 in
set_option maxHeartbeats 4000000 in
theorem zl_seen {Q : zq_Post} {i L : Nat} {sc : Nat × (Nat → Int32)} (hL8 : sc.1 = L) (hi : i + 6 ≤ L) (hL : L ≤ 384) (kk : zlK Q i L sc) {τ : zTd} {S : zES} {H : zSH} {μ : zq_Me} (hC : zIc τ S H μ) (hM : zIm τ S H μ) (hs : μ.2.2.2 = sc) : zq_Wp zn_L_law 812 [(0, .ref 77), (1, .ref 0), (2, .ref 50), (3, .int (nI i))] [] μ Q := by
  have hL0 : μ.2.2.2.1 = L := by rw [hs]; exact hL8
  obtain ⟨r, τ1, S1, H1, hc, hm⟩ := zo_seen (μ.2.2.2.2 ((nI i) + (nI 1)).toNatClampNeg) (μ.2.2.2.2 ((nI i) + (nI 2)).toNatClampNeg) (μ.2.2.2.2 ((nI i) + (nI 3)).toNatClampNeg) τ S H μ hC hM
  obtain ⟨x9, rfl⟩ := zl_int hc zt_X8_seen rfl
  refine zq_go zt_L_law 16 [vp_in ((nI i) + (nI 1)) μ.2.2.2.1, vp_in ((nI i) + (nI 2)) μ.2.2.2.1, vp_in ((nI i) + (nI 3)) μ.2.2.2.1] 828 [(0, .ref 77), (1, .ref 0), (2, .ref 50), (3, .int (nI i))] [(.int (μ.2.2.2.2 ((nI i) + (nI 3)).toNatClampNeg)), (.int (μ.2.2.2.2 ((nI i) + (nI 2)).toNatClampNeg)), (.int (μ.2.2.2.2 ((nI i) + (nI 1)).toNatClampNeg)), .ref 0] μ rfl ⟨zn_in (k := i + 1) (zn_add i 1) (by omega) (by omega), zn_in (k := i + 2) (zn_add i 2) (by omega) (by omega), zn_in (k := i + 3) (zn_add i 3) (by omega) (by omega), trivial⟩ ?_
  refine zq_call zt_L_law [.ref 0, (.int (μ.2.2.2.2 ((nI i) + (nI 1)).toNatClampNeg)), (.int (μ.2.2.2.2 ((nI i) + (nI 2)).toNatClampNeg)), (.int (μ.2.2.2.2 ((nI i) + (nI 3)).toNatClampNeg))] [] hc rfl rfl ?_
  rintro _ μ1 ⟨rfl, hC1, f1⟩
  have hM1 := hM.fr f1 zl_SC
  have e1 := f1.2
  rw [hs] at e1
  have hL1 : μ1.2.2.2.1 = L := by rw [e1]; exact hL8
  refine zq_go zt_L_law 16 [vp_in ((nI i) + (nI 1)) μ1.2.2.2.1, vp_in ((nI i) + (nI 2)) μ1.2.2.2.1, vp_in ((nI i) + (nI 3)) μ1.2.2.2.1] 847 [(0, .ref 77), (1, .ref 0), (2, .ref 50), (3, .int (nI i))] [(.int (μ1.2.2.2.2 ((nI i) + (nI 3)).toNatClampNeg)), (.int (μ1.2.2.2.2 ((nI i) + (nI 2)).toNatClampNeg)), (.int (μ1.2.2.2.2 ((nI i) + (nI 1)).toNatClampNeg)), .ref 50, .int x9] μ1 rfl ⟨zn_in (k := i + 1) (zn_add i 1) (by omega) (by omega), zn_in (k := i + 2) (zn_add i 2) (by omega) (by omega), zn_in (k := i + 3) (zn_add i 3) (by omega) (by omega), trivial⟩ ?_
  rw [show μ1.2.2.2 = μ.2.2.2 from f1.2]
  refine zq_call zt_L_law [.ref 50, (.int (μ.2.2.2.2 ((nI i) + (nI 1)).toNatClampNeg)), (.int (μ.2.2.2.2 ((nI i) + (nI 2)).toNatClampNeg)), (.int (μ.2.2.2.2 ((nI i) + (nI 3)).toNatClampNeg))] [.int x9] (hm μ1 hM1) rfl rfl ?_
  rintro _ μ2 ⟨rfl, hM2, f2⟩
  refine zq_go zt_L_law 1 [] (if x9 = x9 then 1329 else 853) [(0, .ref 77), (1, .ref 0), (2, .ref 50), (3, .int (nI i))] [] μ2 rfl trivial ?_
  rw [if_pos rfl]
  exact kk τ1 S1 H1 μ2 (hC1.fr f2 zl_SM) hM2 (by rw [f2.2, e1])
set_option maxRecDepth 100000 in
set_option maxHeartbeats 4000000 in
theorem zl_forget {Q : zq_Post} {i L : Nat} {sc : Nat × (Nat → Int32)} (hL8 : sc.1 = L) (hi : i + 6 ≤ L) (hL : L ≤ 384) (kk : zlK Q i L sc) {τ : zTd} {S : zES} {H : zSH} {μ : zq_Me} (hC : zIc τ S H μ) (hM : zIm τ S H μ) (hs : μ.2.2.2 = sc) : zq_Wp zn_L_law 855 [(0, .ref 77), (1, .ref 0), (2, .ref 50), (3, .int (nI i))] [] μ Q := by
  have hL0 : μ.2.2.2.1 = L := by rw [hs]; exact hL8
  obtain ⟨r, τ1, S1, H1, hc, hm⟩ := zo_forget  τ S H μ hC hM
  obtain ⟨x9, rfl⟩ := zl_int hc zt_X8_forget rfl
  refine zq_go zt_L_law 1 [] 856 [(0, .ref 77), (1, .ref 0), (2, .ref 50), (3, .int (nI i))] [.ref 0] μ rfl trivial ?_
  refine zq_call zt_L_law [.ref 0] [] hc rfl rfl ?_
  rintro _ μ1 ⟨rfl, hC1, f1⟩
  have hM1 := hM.fr f1 zl_SC
  have e1 := f1.2
  rw [hs] at e1
  have hL1 : μ1.2.2.2.1 = L := by rw [e1]; exact hL8
  refine zq_go zt_L_law 1 [] 860 [(0, .ref 77), (1, .ref 0), (2, .ref 50), (3, .int (nI i))] [.ref 50, .int x9] μ1 rfl trivial ?_
  have := e1
  refine zq_call zt_L_law [.ref 50] [.int x9] (hm μ1 hM1) rfl rfl ?_
  rintro _ μ2 ⟨rfl, hM2, f2⟩
  refine zq_go zt_L_law 1 [] (if x9 = x9 then 1329 else 866) [(0, .ref 77), (1, .ref 0), (2, .ref 50), (3, .int (nI i))] [] μ2 rfl trivial ?_
  rw [if_pos rfl]
  exact kk τ1 S1 H1 μ2 (hC1.fr f2 zl_SM) hM2 (by rw [f2.2, e1])
set_option maxRecDepth 100000 in
set_option maxHeartbeats 4000000 in
theorem zl_never {Q : zq_Post} {i L : Nat} {sc : Nat × (Nat → Int32)} (hL8 : sc.1 = L) (hi : i + 6 ≤ L) (hL : L ≤ 384) (kk : zlK Q i L sc) {τ : zTd} {S : zES} {H : zSH} {μ : zq_Me} (hC : zIc τ S H μ) (hM : zIm τ S H μ) (hs : μ.2.2.2 = sc) : zq_Wp zn_L_law 868 [(0, .ref 77), (1, .ref 0), (2, .ref 50), (3, .int (nI i))] [] μ Q := by
  have hL0 : μ.2.2.2.1 = L := by rw [hs]; exact hL8
  obtain ⟨r, τ1, S1, H1, hc, hm⟩ := zo_never  τ S H μ hC hM
  obtain ⟨x9, rfl⟩ := zl_int hc zt_X8_never rfl
  refine zq_go zt_L_law 1 [] 869 [(0, .ref 77), (1, .ref 0), (2, .ref 50), (3, .int (nI i))] [.ref 0] μ rfl trivial ?_
  refine zq_call zt_L_law [.ref 0] [] hc rfl rfl ?_
  rintro _ μ1 ⟨rfl, hC1, f1⟩
  have hM1 := hM.fr f1 zl_SC
  have e1 := f1.2
  rw [hs] at e1
  have hL1 : μ1.2.2.2.1 = L := by rw [e1]; exact hL8
  refine zq_go zt_L_law 1 [] 873 [(0, .ref 77), (1, .ref 0), (2, .ref 50), (3, .int (nI i))] [.ref 50, .int x9] μ1 rfl trivial ?_
  have := e1
  refine zq_call zt_L_law [.ref 50] [.int x9] (hm μ1 hM1) rfl rfl ?_
  rintro _ μ2 ⟨rfl, hM2, f2⟩
  refine zq_go zt_L_law 1 [] (if x9 = x9 then 1329 else 879) [(0, .ref 77), (1, .ref 0), (2, .ref 50), (3, .int (nI i))] [] μ2 rfl trivial ?_
  rw [if_pos rfl]
  exact kk τ1 S1 H1 μ2 (hC1.fr f2 zl_SM) hM2 (by rw [f2.2, e1])
set_option maxRecDepth 100000 in
set_option maxHeartbeats 4000000 in
theorem zl_was {Q : zq_Post} {i L : Nat} {sc : Nat × (Nat → Int32)} (hL8 : sc.1 = L) (hi : i + 6 ≤ L) (hL : L ≤ 384) (kk : zlK Q i L sc) {τ : zTd} {S : zES} {H : zSH} {μ : zq_Me} (hC : zIc τ S H μ) (hM : zIm τ S H μ) (hs : μ.2.2.2 = sc) : zq_Wp zn_L_law 881 [(0, .ref 77), (1, .ref 0), (2, .ref 50), (3, .int (nI i))] [] μ Q := by
  have hL0 : μ.2.2.2.1 = L := by rw [hs]; exact hL8
  obtain ⟨r, τ1, S1, H1, hc, hm⟩ := zo_was (μ.2.2.2.2 ((nI i) + (nI 1)).toNatClampNeg) (μ.2.2.2.2 ((nI i) + (nI 2)).toNatClampNeg) τ S H μ hC hM
  obtain ⟨x9, rfl⟩ := zl_int hc zt_X8_was rfl
  refine zq_go zt_L_law 11 [vp_in ((nI i) + (nI 1)) μ.2.2.2.1, vp_in ((nI i) + (nI 2)) μ.2.2.2.1] 892 [(0, .ref 77), (1, .ref 0), (2, .ref 50), (3, .int (nI i))] [(.int (μ.2.2.2.2 ((nI i) + (nI 2)).toNatClampNeg)), (.int (μ.2.2.2.2 ((nI i) + (nI 1)).toNatClampNeg)), .ref 0] μ rfl ⟨zn_in (k := i + 1) (zn_add i 1) (by omega) (by omega), zn_in (k := i + 2) (zn_add i 2) (by omega) (by omega), trivial⟩ ?_
  refine zq_call zt_L_law [.ref 0, (.int (μ.2.2.2.2 ((nI i) + (nI 1)).toNatClampNeg)), (.int (μ.2.2.2.2 ((nI i) + (nI 2)).toNatClampNeg))] [] hc rfl rfl ?_
  rintro _ μ1 ⟨rfl, hC1, f1⟩
  have hM1 := hM.fr f1 zl_SC
  have e1 := f1.2
  rw [hs] at e1
  have hL1 : μ1.2.2.2.1 = L := by rw [e1]; exact hL8
  refine zq_go zt_L_law 11 [vp_in ((nI i) + (nI 1)) μ1.2.2.2.1, vp_in ((nI i) + (nI 2)) μ1.2.2.2.1] 906 [(0, .ref 77), (1, .ref 0), (2, .ref 50), (3, .int (nI i))] [(.int (μ1.2.2.2.2 ((nI i) + (nI 2)).toNatClampNeg)), (.int (μ1.2.2.2.2 ((nI i) + (nI 1)).toNatClampNeg)), .ref 50, .int x9] μ1 rfl ⟨zn_in (k := i + 1) (zn_add i 1) (by omega) (by omega), zn_in (k := i + 2) (zn_add i 2) (by omega) (by omega), trivial⟩ ?_
  rw [show μ1.2.2.2 = μ.2.2.2 from f1.2]
  refine zq_call zt_L_law [.ref 50, (.int (μ.2.2.2.2 ((nI i) + (nI 1)).toNatClampNeg)), (.int (μ.2.2.2.2 ((nI i) + (nI 2)).toNatClampNeg))] [.int x9] (hm μ1 hM1) rfl rfl ?_
  rintro _ μ2 ⟨rfl, hM2, f2⟩
  refine zq_go zt_L_law 1 [] (if x9 = x9 then 1329 else 912) [(0, .ref 77), (1, .ref 0), (2, .ref 50), (3, .int (nI i))] [] μ2 rfl trivial ?_
  rw [if_pos rfl]
  exact kk τ1 S1 H1 μ2 (hC1.fr f2 zl_SM) hM2 (by rw [f2.2, e1])
set_option maxRecDepth 100000 in
set_option maxHeartbeats 4000000 in
theorem zl_ask {Q : zq_Post} {i L : Nat} {sc : Nat × (Nat → Int32)} (hL8 : sc.1 = L) (hi : i + 6 ≤ L) (hL : L ≤ 384) (kk : zlK Q i L sc) {τ : zTd} {S : zES} {H : zSH} {μ : zq_Me} (hC : zIc τ S H μ) (hM : zIm τ S H μ) (hs : μ.2.2.2 = sc) : zq_Wp zn_L_law 914 [(0, .ref 77), (1, .ref 0), (2, .ref 50), (3, .int (nI i))] [] μ Q := by
  have hL0 : μ.2.2.2.1 = L := by rw [hs]; exact hL8
  obtain ⟨r, τ1, S1, H1, hc, hm⟩ := zo_ask (μ.2.2.2.2 ((nI i) + (nI 1)).toNatClampNeg) τ S H μ hC hM
  obtain ⟨x9, rfl⟩ := zl_int hc zt_X8_ask rfl
  refine zq_go zt_L_law 6 [vp_in ((nI i) + (nI 1)) μ.2.2.2.1] 920 [(0, .ref 77), (1, .ref 0), (2, .ref 50), (3, .int (nI i))] [(.int (μ.2.2.2.2 ((nI i) + (nI 1)).toNatClampNeg)), .ref 0] μ rfl ⟨zn_in (k := i + 1) (zn_add i 1) (by omega) (by omega), trivial⟩ ?_
  refine zq_call zt_L_law [.ref 0, (.int (μ.2.2.2.2 ((nI i) + (nI 1)).toNatClampNeg))] [] hc rfl rfl ?_
  rintro _ μ1 ⟨rfl, hC1, f1⟩
  have hM1 := hM.fr f1 zl_SC
  have e1 := f1.2
  rw [hs] at e1
  have hL1 : μ1.2.2.2.1 = L := by rw [e1]; exact hL8
  refine zq_go zt_L_law 6 [vp_in ((nI i) + (nI 1)) μ1.2.2.2.1] 929 [(0, .ref 77), (1, .ref 0), (2, .ref 50), (3, .int (nI i))] [(.int (μ1.2.2.2.2 ((nI i) + (nI 1)).toNatClampNeg)), .ref 50, .int x9] μ1 rfl ⟨zn_in (k := i + 1) (zn_add i 1) (by omega) (by omega), trivial⟩ ?_
  rw [show μ1.2.2.2 = μ.2.2.2 from f1.2]
  refine zq_call zt_L_law [.ref 50, (.int (μ.2.2.2.2 ((nI i) + (nI 1)).toNatClampNeg))] [.int x9] (hm μ1 hM1) rfl rfl ?_
  rintro _ μ2 ⟨rfl, hM2, f2⟩
  refine zq_go zt_L_law 1 [] (if x9 = x9 then 1329 else 935) [(0, .ref 77), (1, .ref 0), (2, .ref 50), (3, .int (nI i))] [] μ2 rfl trivial ?_
  rw [if_pos rfl]
  exact kk τ1 S1 H1 μ2 (hC1.fr f2 zl_SM) hM2 (by rw [f2.2, e1])
set_option maxRecDepth 100000 in
set_option maxHeartbeats 4000000 in
theorem zl_chance {Q : zq_Post} {i L : Nat} {sc : Nat × (Nat → Int32)} (hL8 : sc.1 = L) (hi : i + 6 ≤ L) (hL : L ≤ 384) (kk : zlK Q i L sc) {τ : zTd} {S : zES} {H : zSH} {μ : zq_Me} (hC : zIc τ S H μ) (hM : zIm τ S H μ) (hs : μ.2.2.2 = sc) : zq_Wp zn_L_law 937 [(0, .ref 77), (1, .ref 0), (2, .ref 50), (3, .int (nI i))] [] μ Q := by
  have hL0 : μ.2.2.2.1 = L := by rw [hs]; exact hL8
  obtain ⟨r, τ1, S1, H1, hc, hm⟩ := zo_chance (μ.2.2.2.2 ((nI i) + (nI 1)).toNatClampNeg) (μ.2.2.2.2 ((nI i) + (nI 2)).toNatClampNeg) (μ.2.2.2.2 ((nI i) + (nI 3)).toNatClampNeg) (μ.2.2.2.2 ((nI i) + (nI 4)).toNatClampNeg) τ S H μ hC hM
  obtain ⟨x9, rfl⟩ := zl_long hc zt_X8_chance rfl
  refine zq_go zt_L_law 21 [vp_in ((nI i) + (nI 1)) μ.2.2.2.1, vp_in ((nI i) + (nI 2)) μ.2.2.2.1, vp_in ((nI i) + (nI 3)) μ.2.2.2.1, vp_in ((nI i) + (nI 4)) μ.2.2.2.1] 958 [(0, .ref 77), (1, .ref 0), (2, .ref 50), (3, .int (nI i))] [(.int (μ.2.2.2.2 ((nI i) + (nI 4)).toNatClampNeg)), (.int (μ.2.2.2.2 ((nI i) + (nI 3)).toNatClampNeg)), (.int (μ.2.2.2.2 ((nI i) + (nI 2)).toNatClampNeg)), (.int (μ.2.2.2.2 ((nI i) + (nI 1)).toNatClampNeg)), .ref 0] μ rfl ⟨zn_in (k := i + 1) (zn_add i 1) (by omega) (by omega), zn_in (k := i + 2) (zn_add i 2) (by omega) (by omega), zn_in (k := i + 3) (zn_add i 3) (by omega) (by omega), zn_in (k := i + 4) (zn_add i 4) (by omega) (by omega), trivial⟩ ?_
  refine zq_call zt_L_law [.ref 0, (.int (μ.2.2.2.2 ((nI i) + (nI 1)).toNatClampNeg)), (.int (μ.2.2.2.2 ((nI i) + (nI 2)).toNatClampNeg)), (.int (μ.2.2.2.2 ((nI i) + (nI 3)).toNatClampNeg)), (.int (μ.2.2.2.2 ((nI i) + (nI 4)).toNatClampNeg))] [] hc rfl rfl ?_
  rintro _ μ1 ⟨rfl, hC1, f1⟩
  have hM1 := hM.fr f1 zl_SC
  have e1 := f1.2
  rw [hs] at e1
  have hL1 : μ1.2.2.2.1 = L := by rw [e1]; exact hL8
  refine zq_go zt_L_law 21 [vp_in ((nI i) + (nI 1)) μ1.2.2.2.1, vp_in ((nI i) + (nI 2)) μ1.2.2.2.1, vp_in ((nI i) + (nI 3)) μ1.2.2.2.1, vp_in ((nI i) + (nI 4)) μ1.2.2.2.1] 982 [(0, .ref 77), (1, .ref 0), (2, .ref 50), (3, .int (nI i))] [(.int (μ1.2.2.2.2 ((nI i) + (nI 4)).toNatClampNeg)), (.int (μ1.2.2.2.2 ((nI i) + (nI 3)).toNatClampNeg)), (.int (μ1.2.2.2.2 ((nI i) + (nI 2)).toNatClampNeg)), (.int (μ1.2.2.2.2 ((nI i) + (nI 1)).toNatClampNeg)), .ref 50, .long x9] μ1 rfl ⟨zn_in (k := i + 1) (zn_add i 1) (by omega) (by omega), zn_in (k := i + 2) (zn_add i 2) (by omega) (by omega), zn_in (k := i + 3) (zn_add i 3) (by omega) (by omega), zn_in (k := i + 4) (zn_add i 4) (by omega) (by omega), trivial⟩ ?_
  rw [show μ1.2.2.2 = μ.2.2.2 from f1.2]
  refine zq_call zt_L_law [.ref 50, (.int (μ.2.2.2.2 ((nI i) + (nI 1)).toNatClampNeg)), (.int (μ.2.2.2.2 ((nI i) + (nI 2)).toNatClampNeg)), (.int (μ.2.2.2.2 ((nI i) + (nI 3)).toNatClampNeg)), (.int (μ.2.2.2.2 ((nI i) + (nI 4)).toNatClampNeg))] [.long x9] (hm μ1 hM1) rfl rfl ?_
  rintro _ μ2 ⟨rfl, hM2, f2⟩
  refine zq_go zt_L_law 2 [] (if lg_cmp x9 x9 = 0 then 1329 else 989) [(0, .ref 77), (1, .ref 0), (2, .ref 50), (3, .int (nI i))] [] μ2 rfl trivial ?_
  rw [if_pos ((lg_cmp_eq x9 x9).mpr rfl)]
  exact kk τ1 S1 H1 μ2 (hC1.fr f2 zl_SM) hM2 (by rw [f2.2, e1])
set_option maxRecDepth 100000 in
set_option maxHeartbeats 4000000 in
theorem zl_weeks {Q : zq_Post} {i L : Nat} {sc : Nat × (Nat → Int32)} (hL8 : sc.1 = L) (hi : i + 6 ≤ L) (hL : L ≤ 384) (kk : zlK Q i L sc) {τ : zTd} {S : zES} {H : zSH} {μ : zq_Me} (hC : zIc τ S H μ) (hM : zIm τ S H μ) (hs : μ.2.2.2 = sc) : zq_Wp zn_L_law 991 [(0, .ref 77), (1, .ref 0), (2, .ref 50), (3, .int (nI i))] [] μ Q := by
  have hL0 : μ.2.2.2.1 = L := by rw [hs]; exact hL8
  obtain ⟨r, τ1, S1, H1, hc, hm⟩ := zo_weeks (μ.2.2.2.2 ((nI i) + (nI 1)).toNatClampNeg) (μ.2.2.2.2 ((nI i) + (nI 2)).toNatClampNeg) (μ.2.2.2.2 ((nI i) + (nI 3)).toNatClampNeg) τ S H μ hC hM
  obtain ⟨x9, rfl⟩ := zl_int hc zt_X8_weeks rfl
  refine zq_go zt_L_law 16 [vp_in ((nI i) + (nI 1)) μ.2.2.2.1, vp_in ((nI i) + (nI 2)) μ.2.2.2.1, vp_in ((nI i) + (nI 3)) μ.2.2.2.1] 1007 [(0, .ref 77), (1, .ref 0), (2, .ref 50), (3, .int (nI i))] [(.int (μ.2.2.2.2 ((nI i) + (nI 3)).toNatClampNeg)), (.int (μ.2.2.2.2 ((nI i) + (nI 2)).toNatClampNeg)), (.int (μ.2.2.2.2 ((nI i) + (nI 1)).toNatClampNeg)), .ref 0] μ rfl ⟨zn_in (k := i + 1) (zn_add i 1) (by omega) (by omega), zn_in (k := i + 2) (zn_add i 2) (by omega) (by omega), zn_in (k := i + 3) (zn_add i 3) (by omega) (by omega), trivial⟩ ?_
  refine zq_call zt_L_law [.ref 0, (.int (μ.2.2.2.2 ((nI i) + (nI 1)).toNatClampNeg)), (.int (μ.2.2.2.2 ((nI i) + (nI 2)).toNatClampNeg)), (.int (μ.2.2.2.2 ((nI i) + (nI 3)).toNatClampNeg))] [] hc rfl rfl ?_
  rintro _ μ1 ⟨rfl, hC1, f1⟩
  have hM1 := hM.fr f1 zl_SC
  have e1 := f1.2
  rw [hs] at e1
  have hL1 : μ1.2.2.2.1 = L := by rw [e1]; exact hL8
  refine zq_go zt_L_law 16 [vp_in ((nI i) + (nI 1)) μ1.2.2.2.1, vp_in ((nI i) + (nI 2)) μ1.2.2.2.1, vp_in ((nI i) + (nI 3)) μ1.2.2.2.1] 1026 [(0, .ref 77), (1, .ref 0), (2, .ref 50), (3, .int (nI i))] [(.int (μ1.2.2.2.2 ((nI i) + (nI 3)).toNatClampNeg)), (.int (μ1.2.2.2.2 ((nI i) + (nI 2)).toNatClampNeg)), (.int (μ1.2.2.2.2 ((nI i) + (nI 1)).toNatClampNeg)), .ref 50, .int x9] μ1 rfl ⟨zn_in (k := i + 1) (zn_add i 1) (by omega) (by omega), zn_in (k := i + 2) (zn_add i 2) (by omega) (by omega), zn_in (k := i + 3) (zn_add i 3) (by omega) (by omega), trivial⟩ ?_
  rw [show μ1.2.2.2 = μ.2.2.2 from f1.2]
  refine zq_call zt_L_law [.ref 50, (.int (μ.2.2.2.2 ((nI i) + (nI 1)).toNatClampNeg)), (.int (μ.2.2.2.2 ((nI i) + (nI 2)).toNatClampNeg)), (.int (μ.2.2.2.2 ((nI i) + (nI 3)).toNatClampNeg))] [.int x9] (hm μ1 hM1) rfl rfl ?_
  rintro _ μ2 ⟨rfl, hM2, f2⟩
  refine zq_go zt_L_law 1 [] (if x9 = x9 then 1329 else 1032) [(0, .ref 77), (1, .ref 0), (2, .ref 50), (3, .int (nI i))] [] μ2 rfl trivial ?_
  rw [if_pos rfl]
  exact kk τ1 S1 H1 μ2 (hC1.fr f2 zl_SM) hM2 (by rw [f2.2, e1])
set_option maxRecDepth 100000 in
set_option maxHeartbeats 4000000 in
theorem zl_sheet {Q : zq_Post} {i L : Nat} {sc : Nat × (Nat → Int32)} (hL8 : sc.1 = L) (hi : i + 6 ≤ L) (hL : L ≤ 384) (kk : zlK Q i L sc) {τ : zTd} {S : zES} {H : zSH} {μ : zq_Me} (hC : zIc τ S H μ) (hM : zIm τ S H μ) (hs : μ.2.2.2 = sc) : zq_Wp zn_L_law 1034 [(0, .ref 77), (1, .ref 0), (2, .ref 50), (3, .int (nI i))] [] μ Q := by
  have hL0 : μ.2.2.2.1 = L := by rw [hs]; exact hL8
  obtain ⟨r, τ1, S1, H1, hc, hm⟩ := zo_sheet (μ.2.2.2.2 ((nI i) + (nI 1)).toNatClampNeg) (μ.2.2.2.2 ((nI i) + (nI 2)).toNatClampNeg) (μ.2.2.2.2 ((nI i) + (nI 3)).toNatClampNeg) τ S H μ hC hM
  obtain ⟨x9, rfl⟩ := zl_int hc zt_X8_sheet rfl
  refine zq_go zt_L_law 16 [vp_in ((nI i) + (nI 1)) μ.2.2.2.1, vp_in ((nI i) + (nI 2)) μ.2.2.2.1, vp_in ((nI i) + (nI 3)) μ.2.2.2.1] 1050 [(0, .ref 77), (1, .ref 0), (2, .ref 50), (3, .int (nI i))] [(.int (μ.2.2.2.2 ((nI i) + (nI 3)).toNatClampNeg)), (.int (μ.2.2.2.2 ((nI i) + (nI 2)).toNatClampNeg)), (.int (μ.2.2.2.2 ((nI i) + (nI 1)).toNatClampNeg)), .ref 0] μ rfl ⟨zn_in (k := i + 1) (zn_add i 1) (by omega) (by omega), zn_in (k := i + 2) (zn_add i 2) (by omega) (by omega), zn_in (k := i + 3) (zn_add i 3) (by omega) (by omega), trivial⟩ ?_
  refine zq_call zt_L_law [.ref 0, (.int (μ.2.2.2.2 ((nI i) + (nI 1)).toNatClampNeg)), (.int (μ.2.2.2.2 ((nI i) + (nI 2)).toNatClampNeg)), (.int (μ.2.2.2.2 ((nI i) + (nI 3)).toNatClampNeg))] [] hc rfl rfl ?_
  rintro _ μ1 ⟨rfl, hC1, f1⟩
  have hM1 := hM.fr f1 zl_SC
  have e1 := f1.2
  rw [hs] at e1
  have hL1 : μ1.2.2.2.1 = L := by rw [e1]; exact hL8
  refine zq_go zt_L_law 16 [vp_in ((nI i) + (nI 1)) μ1.2.2.2.1, vp_in ((nI i) + (nI 2)) μ1.2.2.2.1, vp_in ((nI i) + (nI 3)) μ1.2.2.2.1] 1069 [(0, .ref 77), (1, .ref 0), (2, .ref 50), (3, .int (nI i))] [(.int (μ1.2.2.2.2 ((nI i) + (nI 3)).toNatClampNeg)), (.int (μ1.2.2.2.2 ((nI i) + (nI 2)).toNatClampNeg)), (.int (μ1.2.2.2.2 ((nI i) + (nI 1)).toNatClampNeg)), .ref 50, .int x9] μ1 rfl ⟨zn_in (k := i + 1) (zn_add i 1) (by omega) (by omega), zn_in (k := i + 2) (zn_add i 2) (by omega) (by omega), zn_in (k := i + 3) (zn_add i 3) (by omega) (by omega), trivial⟩ ?_
  rw [show μ1.2.2.2 = μ.2.2.2 from f1.2]
  refine zq_call zt_L_law [.ref 50, (.int (μ.2.2.2.2 ((nI i) + (nI 1)).toNatClampNeg)), (.int (μ.2.2.2.2 ((nI i) + (nI 2)).toNatClampNeg)), (.int (μ.2.2.2.2 ((nI i) + (nI 3)).toNatClampNeg))] [.int x9] (hm μ1 hM1) rfl rfl ?_
  rintro _ μ2 ⟨rfl, hM2, f2⟩
  refine zq_go zt_L_law 1 [] (if x9 = x9 then 1329 else 1075) [(0, .ref 77), (1, .ref 0), (2, .ref 50), (3, .int (nI i))] [] μ2 rfl trivial ?_
  rw [if_pos rfl]
  exact kk τ1 S1 H1 μ2 (hC1.fr f2 zl_SM) hM2 (by rw [f2.2, e1])
set_option maxRecDepth 100000 in
set_option maxHeartbeats 4000000 in
theorem zl_lose {Q : zq_Post} {i L : Nat} {sc : Nat × (Nat → Int32)} (hL8 : sc.1 = L) (hi : i + 6 ≤ L) (hL : L ≤ 384) (kk : zlK Q i L sc) {τ : zTd} {S : zES} {H : zSH} {μ : zq_Me} (hC : zIc τ S H μ) (hM : zIm τ S H μ) (hs : μ.2.2.2 = sc) : zq_Wp zn_L_law 1077 [(0, .ref 77), (1, .ref 0), (2, .ref 50), (3, .int (nI i))] [] μ Q := by
  have hL0 : μ.2.2.2.1 = L := by rw [hs]; exact hL8
  obtain ⟨r, τ1, S1, H1, hc, hm⟩ := zo_lose (μ.2.2.2.2 ((nI i) + (nI 1)).toNatClampNeg) τ S H μ hC hM
  obtain ⟨x9, rfl⟩ := zl_int hc zt_X8_lose rfl
  refine zq_go zt_L_law 6 [vp_in ((nI i) + (nI 1)) μ.2.2.2.1] 1083 [(0, .ref 77), (1, .ref 0), (2, .ref 50), (3, .int (nI i))] [(.int (μ.2.2.2.2 ((nI i) + (nI 1)).toNatClampNeg)), .ref 0] μ rfl ⟨zn_in (k := i + 1) (zn_add i 1) (by omega) (by omega), trivial⟩ ?_
  refine zq_call zt_L_law [.ref 0, (.int (μ.2.2.2.2 ((nI i) + (nI 1)).toNatClampNeg))] [] hc rfl rfl ?_
  rintro _ μ1 ⟨rfl, hC1, f1⟩
  have hM1 := hM.fr f1 zl_SC
  have e1 := f1.2
  rw [hs] at e1
  have hL1 : μ1.2.2.2.1 = L := by rw [e1]; exact hL8
  refine zq_go zt_L_law 6 [vp_in ((nI i) + (nI 1)) μ1.2.2.2.1] 1092 [(0, .ref 77), (1, .ref 0), (2, .ref 50), (3, .int (nI i))] [(.int (μ1.2.2.2.2 ((nI i) + (nI 1)).toNatClampNeg)), .ref 50, .int x9] μ1 rfl ⟨zn_in (k := i + 1) (zn_add i 1) (by omega) (by omega), trivial⟩ ?_
  rw [show μ1.2.2.2 = μ.2.2.2 from f1.2]
  refine zq_call zt_L_law [.ref 50, (.int (μ.2.2.2.2 ((nI i) + (nI 1)).toNatClampNeg))] [.int x9] (hm μ1 hM1) rfl rfl ?_
  rintro _ μ2 ⟨rfl, hM2, f2⟩
  refine zq_go zt_L_law 1 [] (if x9 = x9 then 1329 else 1098) [(0, .ref 77), (1, .ref 0), (2, .ref 50), (3, .int (nI i))] [] μ2 rfl trivial ?_
  rw [if_pos rfl]
  exact kk τ1 S1 H1 μ2 (hC1.fr f2 zl_SM) hM2 (by rw [f2.2, e1])
set_option maxRecDepth 100000 in
set_option maxHeartbeats 4000000 in
theorem zl_put {Q : zq_Post} {i L : Nat} {sc : Nat × (Nat → Int32)} (hL8 : sc.1 = L) (hi : i + 6 ≤ L) (hL : L ≤ 384) (kk : zlK Q i L sc) {τ : zTd} {S : zES} {H : zSH} {μ : zq_Me} (hC : zIc τ S H μ) (hM : zIm τ S H μ) (hs : μ.2.2.2 = sc) : zq_Wp zn_L_law 1100 [(0, .ref 77), (1, .ref 0), (2, .ref 50), (3, .int (nI i))] [] μ Q := by
  have hL0 : μ.2.2.2.1 = L := by rw [hs]; exact hL8
  obtain ⟨r, τ1, S1, H1, hc, hm⟩ := zo_put (μ.2.2.2.2 ((nI i) + (nI 1)).toNatClampNeg) (μ.2.2.2.2 ((nI i) + (nI 2)).toNatClampNeg) (μ.2.2.2.2 ((nI i) + (nI 3)).toNatClampNeg) (μ.2.2.2.2 ((nI i) + (nI 4)).toNatClampNeg) τ S H μ hC hM
  obtain ⟨x9, rfl⟩ := zl_int hc zt_X8_put rfl
  refine zq_go zt_L_law 21 [vp_in ((nI i) + (nI 1)) μ.2.2.2.1, vp_in ((nI i) + (nI 2)) μ.2.2.2.1, vp_in ((nI i) + (nI 3)) μ.2.2.2.1, vp_in ((nI i) + (nI 4)) μ.2.2.2.1] 1121 [(0, .ref 77), (1, .ref 0), (2, .ref 50), (3, .int (nI i))] [(.int (μ.2.2.2.2 ((nI i) + (nI 4)).toNatClampNeg)), (.int (μ.2.2.2.2 ((nI i) + (nI 3)).toNatClampNeg)), (.int (μ.2.2.2.2 ((nI i) + (nI 2)).toNatClampNeg)), (.int (μ.2.2.2.2 ((nI i) + (nI 1)).toNatClampNeg)), .ref 0] μ rfl ⟨zn_in (k := i + 1) (zn_add i 1) (by omega) (by omega), zn_in (k := i + 2) (zn_add i 2) (by omega) (by omega), zn_in (k := i + 3) (zn_add i 3) (by omega) (by omega), zn_in (k := i + 4) (zn_add i 4) (by omega) (by omega), trivial⟩ ?_
  refine zq_call zt_L_law [.ref 0, (.int (μ.2.2.2.2 ((nI i) + (nI 1)).toNatClampNeg)), (.int (μ.2.2.2.2 ((nI i) + (nI 2)).toNatClampNeg)), (.int (μ.2.2.2.2 ((nI i) + (nI 3)).toNatClampNeg)), (.int (μ.2.2.2.2 ((nI i) + (nI 4)).toNatClampNeg))] [] hc rfl rfl ?_
  rintro _ μ1 ⟨rfl, hC1, f1⟩
  have hM1 := hM.fr f1 zl_SC
  have e1 := f1.2
  rw [hs] at e1
  have hL1 : μ1.2.2.2.1 = L := by rw [e1]; exact hL8
  refine zq_go zt_L_law 21 [vp_in ((nI i) + (nI 1)) μ1.2.2.2.1, vp_in ((nI i) + (nI 2)) μ1.2.2.2.1, vp_in ((nI i) + (nI 3)) μ1.2.2.2.1, vp_in ((nI i) + (nI 4)) μ1.2.2.2.1] 1145 [(0, .ref 77), (1, .ref 0), (2, .ref 50), (3, .int (nI i))] [(.int (μ1.2.2.2.2 ((nI i) + (nI 4)).toNatClampNeg)), (.int (μ1.2.2.2.2 ((nI i) + (nI 3)).toNatClampNeg)), (.int (μ1.2.2.2.2 ((nI i) + (nI 2)).toNatClampNeg)), (.int (μ1.2.2.2.2 ((nI i) + (nI 1)).toNatClampNeg)), .ref 50, .int x9] μ1 rfl ⟨zn_in (k := i + 1) (zn_add i 1) (by omega) (by omega), zn_in (k := i + 2) (zn_add i 2) (by omega) (by omega), zn_in (k := i + 3) (zn_add i 3) (by omega) (by omega), zn_in (k := i + 4) (zn_add i 4) (by omega) (by omega), trivial⟩ ?_
  rw [show μ1.2.2.2 = μ.2.2.2 from f1.2]
  refine zq_call zt_L_law [.ref 50, (.int (μ.2.2.2.2 ((nI i) + (nI 1)).toNatClampNeg)), (.int (μ.2.2.2.2 ((nI i) + (nI 2)).toNatClampNeg)), (.int (μ.2.2.2.2 ((nI i) + (nI 3)).toNatClampNeg)), (.int (μ.2.2.2.2 ((nI i) + (nI 4)).toNatClampNeg))] [.int x9] (hm μ1 hM1) rfl rfl ?_
  rintro _ μ2 ⟨rfl, hM2, f2⟩
  refine zq_go zt_L_law 1 [] (if x9 = x9 then 1329 else 1151) [(0, .ref 77), (1, .ref 0), (2, .ref 50), (3, .int (nI i))] [] μ2 rfl trivial ?_
  rw [if_pos rfl]
  exact kk τ1 S1 H1 μ2 (hC1.fr f2 zl_SM) hM2 (by rw [f2.2, e1])
set_option maxRecDepth 100000 in
set_option maxHeartbeats 4000000 in
theorem zl_get {Q : zq_Post} {i L : Nat} {sc : Nat × (Nat → Int32)} (hL8 : sc.1 = L) (hi : i + 6 ≤ L) (hL : L ≤ 384) (kk : zlK Q i L sc) {τ : zTd} {S : zES} {H : zSH} {μ : zq_Me} (hC : zIc τ S H μ) (hM : zIm τ S H μ) (hs : μ.2.2.2 = sc) : zq_Wp zn_L_law 1153 [(0, .ref 77), (1, .ref 0), (2, .ref 50), (3, .int (nI i))] [] μ Q := by
  have hL0 : μ.2.2.2.1 = L := by rw [hs]; exact hL8
  obtain ⟨r, τ1, S1, H1, hc, hm⟩ := zo_get (μ.2.2.2.2 ((nI i) + (nI 1)).toNatClampNeg) (μ.2.2.2.2 ((nI i) + (nI 2)).toNatClampNeg) (μ.2.2.2.2 ((nI i) + (nI 3)).toNatClampNeg) τ S H μ hC hM
  obtain ⟨x9, rfl⟩ := zl_int hc zt_X8_get rfl
  refine zq_go zt_L_law 16 [vp_in ((nI i) + (nI 1)) μ.2.2.2.1, vp_in ((nI i) + (nI 2)) μ.2.2.2.1, vp_in ((nI i) + (nI 3)) μ.2.2.2.1] 1169 [(0, .ref 77), (1, .ref 0), (2, .ref 50), (3, .int (nI i))] [(.int (μ.2.2.2.2 ((nI i) + (nI 3)).toNatClampNeg)), (.int (μ.2.2.2.2 ((nI i) + (nI 2)).toNatClampNeg)), (.int (μ.2.2.2.2 ((nI i) + (nI 1)).toNatClampNeg)), .ref 0] μ rfl ⟨zn_in (k := i + 1) (zn_add i 1) (by omega) (by omega), zn_in (k := i + 2) (zn_add i 2) (by omega) (by omega), zn_in (k := i + 3) (zn_add i 3) (by omega) (by omega), trivial⟩ ?_
  refine zq_call zt_L_law [.ref 0, (.int (μ.2.2.2.2 ((nI i) + (nI 1)).toNatClampNeg)), (.int (μ.2.2.2.2 ((nI i) + (nI 2)).toNatClampNeg)), (.int (μ.2.2.2.2 ((nI i) + (nI 3)).toNatClampNeg))] [] hc rfl rfl ?_
  rintro _ μ1 ⟨rfl, hC1, f1⟩
  have hM1 := hM.fr f1 zl_SC
  have e1 := f1.2
  rw [hs] at e1
  have hL1 : μ1.2.2.2.1 = L := by rw [e1]; exact hL8
  refine zq_go zt_L_law 16 [vp_in ((nI i) + (nI 1)) μ1.2.2.2.1, vp_in ((nI i) + (nI 2)) μ1.2.2.2.1, vp_in ((nI i) + (nI 3)) μ1.2.2.2.1] 1188 [(0, .ref 77), (1, .ref 0), (2, .ref 50), (3, .int (nI i))] [(.int (μ1.2.2.2.2 ((nI i) + (nI 3)).toNatClampNeg)), (.int (μ1.2.2.2.2 ((nI i) + (nI 2)).toNatClampNeg)), (.int (μ1.2.2.2.2 ((nI i) + (nI 1)).toNatClampNeg)), .ref 50, .int x9] μ1 rfl ⟨zn_in (k := i + 1) (zn_add i 1) (by omega) (by omega), zn_in (k := i + 2) (zn_add i 2) (by omega) (by omega), zn_in (k := i + 3) (zn_add i 3) (by omega) (by omega), trivial⟩ ?_
  rw [show μ1.2.2.2 = μ.2.2.2 from f1.2]
  refine zq_call zt_L_law [.ref 50, (.int (μ.2.2.2.2 ((nI i) + (nI 1)).toNatClampNeg)), (.int (μ.2.2.2.2 ((nI i) + (nI 2)).toNatClampNeg)), (.int (μ.2.2.2.2 ((nI i) + (nI 3)).toNatClampNeg))] [.int x9] (hm μ1 hM1) rfl rfl ?_
  rintro _ μ2 ⟨rfl, hM2, f2⟩
  refine zq_go zt_L_law 1 [] (if x9 = x9 then 1329 else 1194) [(0, .ref 77), (1, .ref 0), (2, .ref 50), (3, .int (nI i))] [] μ2 rfl trivial ?_
  rw [if_pos rfl]
  exact kk τ1 S1 H1 μ2 (hC1.fr f2 zl_SM) hM2 (by rw [f2.2, e1])
set_option maxRecDepth 100000 in
set_option maxHeartbeats 4000000 in
theorem zl_copy {Q : zq_Post} {i L : Nat} {sc : Nat × (Nat → Int32)} (hL8 : sc.1 = L) (hi : i + 6 ≤ L) (hL : L ≤ 384) (kk : zlK Q i L sc) {τ : zTd} {S : zES} {H : zSH} {μ : zq_Me} (hC : zIc τ S H μ) (hM : zIm τ S H μ) (hs : μ.2.2.2 = sc) : zq_Wp zn_L_law 1196 [(0, .ref 77), (1, .ref 0), (2, .ref 50), (3, .int (nI i))] [] μ Q := by
  have hL0 : μ.2.2.2.1 = L := by rw [hs]; exact hL8
  obtain ⟨r, τ1, S1, H1, hc, hm⟩ := zo_copy (μ.2.2.2.2 ((nI i) + (nI 1)).toNatClampNeg) (μ.2.2.2.2 ((nI i) + (nI 2)).toNatClampNeg) (μ.2.2.2.2 ((nI i) + (nI 3)).toNatClampNeg) (μ.2.2.2.2 ((nI i) + (nI 4)).toNatClampNeg) (μ.2.2.2.2 ((nI i) + (nI 5)).toNatClampNeg) τ S H μ hC hM
  obtain ⟨x9, rfl⟩ := zl_int hc zt_X8_copy rfl
  refine zq_go zt_L_law 26 [vp_in ((nI i) + (nI 1)) μ.2.2.2.1, vp_in ((nI i) + (nI 2)) μ.2.2.2.1, vp_in ((nI i) + (nI 3)) μ.2.2.2.1, vp_in ((nI i) + (nI 4)) μ.2.2.2.1, vp_in ((nI i) + (nI 5)) μ.2.2.2.1] 1222 [(0, .ref 77), (1, .ref 0), (2, .ref 50), (3, .int (nI i))] [(.int (μ.2.2.2.2 ((nI i) + (nI 5)).toNatClampNeg)), (.int (μ.2.2.2.2 ((nI i) + (nI 4)).toNatClampNeg)), (.int (μ.2.2.2.2 ((nI i) + (nI 3)).toNatClampNeg)), (.int (μ.2.2.2.2 ((nI i) + (nI 2)).toNatClampNeg)), (.int (μ.2.2.2.2 ((nI i) + (nI 1)).toNatClampNeg)), .ref 0] μ rfl ⟨zn_in (k := i + 1) (zn_add i 1) (by omega) (by omega), zn_in (k := i + 2) (zn_add i 2) (by omega) (by omega), zn_in (k := i + 3) (zn_add i 3) (by omega) (by omega), zn_in (k := i + 4) (zn_add i 4) (by omega) (by omega), zn_in (k := i + 5) (zn_add i 5) (by omega) (by omega), trivial⟩ ?_
  refine zq_call zt_L_law [.ref 0, (.int (μ.2.2.2.2 ((nI i) + (nI 1)).toNatClampNeg)), (.int (μ.2.2.2.2 ((nI i) + (nI 2)).toNatClampNeg)), (.int (μ.2.2.2.2 ((nI i) + (nI 3)).toNatClampNeg)), (.int (μ.2.2.2.2 ((nI i) + (nI 4)).toNatClampNeg)), (.int (μ.2.2.2.2 ((nI i) + (nI 5)).toNatClampNeg))] [] hc rfl rfl ?_
  rintro _ μ1 ⟨rfl, hC1, f1⟩
  have hM1 := hM.fr f1 zl_SC
  have e1 := f1.2
  rw [hs] at e1
  have hL1 : μ1.2.2.2.1 = L := by rw [e1]; exact hL8
  refine zq_go zt_L_law 26 [vp_in ((nI i) + (nI 1)) μ1.2.2.2.1, vp_in ((nI i) + (nI 2)) μ1.2.2.2.1, vp_in ((nI i) + (nI 3)) μ1.2.2.2.1, vp_in ((nI i) + (nI 4)) μ1.2.2.2.1, vp_in ((nI i) + (nI 5)) μ1.2.2.2.1] 1251 [(0, .ref 77), (1, .ref 0), (2, .ref 50), (3, .int (nI i))] [(.int (μ1.2.2.2.2 ((nI i) + (nI 5)).toNatClampNeg)), (.int (μ1.2.2.2.2 ((nI i) + (nI 4)).toNatClampNeg)), (.int (μ1.2.2.2.2 ((nI i) + (nI 3)).toNatClampNeg)), (.int (μ1.2.2.2.2 ((nI i) + (nI 2)).toNatClampNeg)), (.int (μ1.2.2.2.2 ((nI i) + (nI 1)).toNatClampNeg)), .ref 50, .int x9] μ1 rfl ⟨zn_in (k := i + 1) (zn_add i 1) (by omega) (by omega), zn_in (k := i + 2) (zn_add i 2) (by omega) (by omega), zn_in (k := i + 3) (zn_add i 3) (by omega) (by omega), zn_in (k := i + 4) (zn_add i 4) (by omega) (by omega), zn_in (k := i + 5) (zn_add i 5) (by omega) (by omega), trivial⟩ ?_
  rw [show μ1.2.2.2 = μ.2.2.2 from f1.2]
  refine zq_call zt_L_law [.ref 50, (.int (μ.2.2.2.2 ((nI i) + (nI 1)).toNatClampNeg)), (.int (μ.2.2.2.2 ((nI i) + (nI 2)).toNatClampNeg)), (.int (μ.2.2.2.2 ((nI i) + (nI 3)).toNatClampNeg)), (.int (μ.2.2.2.2 ((nI i) + (nI 4)).toNatClampNeg)), (.int (μ.2.2.2.2 ((nI i) + (nI 5)).toNatClampNeg))] [.int x9] (hm μ1 hM1) rfl rfl ?_
  rintro _ μ2 ⟨rfl, hM2, f2⟩
  refine zq_go zt_L_law 1 [] (if x9 = x9 then 1329 else 1257) [(0, .ref 77), (1, .ref 0), (2, .ref 50), (3, .int (nI i))] [] μ2 rfl trivial ?_
  rw [if_pos rfl]
  exact kk τ1 S1 H1 μ2 (hC1.fr f2 zl_SM) hM2 (by rw [f2.2, e1])
set_option maxRecDepth 100000 in
set_option maxHeartbeats 4000000 in
theorem zl_write {Q : zq_Post} {i L : Nat} {sc : Nat × (Nat → Int32)} (hL8 : sc.1 = L) (hi : i + 6 ≤ L) (hL : L ≤ 384) (kk : zlK Q i L sc) {τ : zTd} {S : zES} {H : zSH} {μ : zq_Me} (hC : zIc τ S H μ) (hM : zIm τ S H μ) (hs : μ.2.2.2 = sc) : zq_Wp zn_L_law 1259 [(0, .ref 77), (1, .ref 0), (2, .ref 50), (3, .int (nI i))] [] μ Q := by
  have hL0 : μ.2.2.2.1 = L := by rw [hs]; exact hL8
  obtain ⟨r, τ1, S1, H1, hc, hm⟩ := zo_write (μ.2.2.2.2 ((nI i) + (nI 1)).toNatClampNeg) (μ.2.2.2.2 ((nI i) + (nI 2)).toNatClampNeg) τ S H μ hC hM
  obtain ⟨x9, rfl⟩ := zl_int hc zt_X8_write rfl
  refine zq_go zt_L_law 11 [vp_in ((nI i) + (nI 1)) μ.2.2.2.1, vp_in ((nI i) + (nI 2)) μ.2.2.2.1] 1270 [(0, .ref 77), (1, .ref 0), (2, .ref 50), (3, .int (nI i))] [(.int (μ.2.2.2.2 ((nI i) + (nI 2)).toNatClampNeg)), (.int (μ.2.2.2.2 ((nI i) + (nI 1)).toNatClampNeg)), .ref 0] μ rfl ⟨zn_in (k := i + 1) (zn_add i 1) (by omega) (by omega), zn_in (k := i + 2) (zn_add i 2) (by omega) (by omega), trivial⟩ ?_
  refine zq_call zt_L_law [.ref 0, (.int (μ.2.2.2.2 ((nI i) + (nI 1)).toNatClampNeg)), (.int (μ.2.2.2.2 ((nI i) + (nI 2)).toNatClampNeg))] [] hc rfl rfl ?_
  rintro _ μ1 ⟨rfl, hC1, f1⟩
  have hM1 := hM.fr f1 zl_SC
  have e1 := f1.2
  rw [hs] at e1
  have hL1 : μ1.2.2.2.1 = L := by rw [e1]; exact hL8
  refine zq_go zt_L_law 11 [vp_in ((nI i) + (nI 1)) μ1.2.2.2.1, vp_in ((nI i) + (nI 2)) μ1.2.2.2.1] 1284 [(0, .ref 77), (1, .ref 0), (2, .ref 50), (3, .int (nI i))] [(.int (μ1.2.2.2.2 ((nI i) + (nI 2)).toNatClampNeg)), (.int (μ1.2.2.2.2 ((nI i) + (nI 1)).toNatClampNeg)), .ref 50, .int x9] μ1 rfl ⟨zn_in (k := i + 1) (zn_add i 1) (by omega) (by omega), zn_in (k := i + 2) (zn_add i 2) (by omega) (by omega), trivial⟩ ?_
  rw [show μ1.2.2.2 = μ.2.2.2 from f1.2]
  refine zq_call zt_L_law [.ref 50, (.int (μ.2.2.2.2 ((nI i) + (nI 1)).toNatClampNeg)), (.int (μ.2.2.2.2 ((nI i) + (nI 2)).toNatClampNeg))] [.int x9] (hm μ1 hM1) rfl rfl ?_
  rintro _ μ2 ⟨rfl, hM2, f2⟩
  refine zq_go zt_L_law 1 [] (if x9 = x9 then 1329 else 1290) [(0, .ref 77), (1, .ref 0), (2, .ref 50), (3, .int (nI i))] [] μ2 rfl trivial ?_
  rw [if_pos rfl]
  exact kk τ1 S1 H1 μ2 (hC1.fr f2 zl_SM) hM2 (by rw [f2.2, e1])
set_option maxRecDepth 100000 in
set_option maxHeartbeats 4000000 in
theorem zl_count {Q : zq_Post} {i L : Nat} {sc : Nat × (Nat → Int32)} (hL8 : sc.1 = L) (hi : i + 6 ≤ L) (hL : L ≤ 384) (kk : zlK Q i L sc) {τ : zTd} {S : zES} {H : zSH} {μ : zq_Me} (hC : zIc τ S H μ) (hM : zIm τ S H μ) (hs : μ.2.2.2 = sc) : zq_Wp zn_L_law 1292 [(0, .ref 77), (1, .ref 0), (2, .ref 50), (3, .int (nI i))] [] μ Q := by
  have hL0 : μ.2.2.2.1 = L := by rw [hs]; exact hL8
  obtain ⟨r, τ1, S1, H1, hc, hm⟩ := zo_count (μ.2.2.2.2 ((nI i) + (nI 1)).toNatClampNeg) τ S H μ hC hM
  obtain ⟨x9, rfl⟩ := zl_int hc zt_X8_count rfl
  refine zq_go zt_L_law 6 [vp_in ((nI i) + (nI 1)) μ.2.2.2.1] 1298 [(0, .ref 77), (1, .ref 0), (2, .ref 50), (3, .int (nI i))] [(.int (μ.2.2.2.2 ((nI i) + (nI 1)).toNatClampNeg)), .ref 0] μ rfl ⟨zn_in (k := i + 1) (zn_add i 1) (by omega) (by omega), trivial⟩ ?_
  refine zq_call zt_L_law [.ref 0, (.int (μ.2.2.2.2 ((nI i) + (nI 1)).toNatClampNeg))] [] hc rfl rfl ?_
  rintro _ μ1 ⟨rfl, hC1, f1⟩
  have hM1 := hM.fr f1 zl_SC
  have e1 := f1.2
  rw [hs] at e1
  have hL1 : μ1.2.2.2.1 = L := by rw [e1]; exact hL8
  refine zq_go zt_L_law 6 [vp_in ((nI i) + (nI 1)) μ1.2.2.2.1] 1307 [(0, .ref 77), (1, .ref 0), (2, .ref 50), (3, .int (nI i))] [(.int (μ1.2.2.2.2 ((nI i) + (nI 1)).toNatClampNeg)), .ref 50, .int x9] μ1 rfl ⟨zn_in (k := i + 1) (zn_add i 1) (by omega) (by omega), trivial⟩ ?_
  rw [show μ1.2.2.2 = μ.2.2.2 from f1.2]
  refine zq_call zt_L_law [.ref 50, (.int (μ.2.2.2.2 ((nI i) + (nI 1)).toNatClampNeg))] [.int x9] (hm μ1 hM1) rfl rfl ?_
  rintro _ μ2 ⟨rfl, hM2, f2⟩
  refine zq_go zt_L_law 1 [] (if x9 = x9 then 1329 else 1313) [(0, .ref 77), (1, .ref 0), (2, .ref 50), (3, .int (nI i))] [] μ2 rfl trivial ?_
  rw [if_pos rfl]
  exact kk τ1 S1 H1 μ2 (hC1.fr f2 zl_SM) hM2 (by rw [f2.2, e1])
set_option maxRecDepth 100000 in
set_option maxHeartbeats 4000000 in
theorem zl_digest {Q : zq_Post} {i L : Nat} {sc : Nat × (Nat → Int32)} (hL8 : sc.1 = L) (hi : i + 6 ≤ L) (hL : L ≤ 384) (kk : zlK Q i L sc) {τ : zTd} {S : zES} {H : zSH} {μ : zq_Me} (hC : zIc τ S H μ) (hM : zIm τ S H μ) (hs : μ.2.2.2 = sc) : zq_Wp zn_L_law 1315 [(0, .ref 77), (1, .ref 0), (2, .ref 50), (3, .int (nI i))] [] μ Q := by
  have hL0 : μ.2.2.2.1 = L := by rw [hs]; exact hL8
  obtain ⟨r, τ1, S1, H1, hc, hm⟩ := zo_digest  τ S H μ hC hM
  obtain ⟨x9, rfl⟩ := zl_long hc zt_X8_digest rfl
  refine zq_go zt_L_law 1 [] 1316 [(0, .ref 77), (1, .ref 0), (2, .ref 50), (3, .int (nI i))] [.ref 0] μ rfl trivial ?_
  refine zq_call zt_L_law [.ref 0] [] hc rfl rfl ?_
  rintro _ μ1 ⟨rfl, hC1, f1⟩
  have hM1 := hM.fr f1 zl_SC
  have e1 := f1.2
  rw [hs] at e1
  have hL1 : μ1.2.2.2.1 = L := by rw [e1]; exact hL8
  refine zq_go zt_L_law 1 [] 1320 [(0, .ref 77), (1, .ref 0), (2, .ref 50), (3, .int (nI i))] [.ref 50, .long x9] μ1 rfl trivial ?_
  have := e1
  refine zq_call zt_L_law [.ref 50] [.long x9] (hm μ1 hM1) rfl rfl ?_
  rintro _ μ2 ⟨rfl, hM2, f2⟩
  refine zq_go zt_L_law 2 [] (if lg_cmp x9 x9 = 0 then 1329 else 1327) [(0, .ref 77), (1, .ref 0), (2, .ref 50), (3, .int (nI i))] [] μ2 rfl trivial ?_
  rw [if_pos ((lg_cmp_eq x9 x9).mpr rfl)]
  exact kk τ1 S1 H1 μ2 (hC1.fr f2 zl_SM) hM2 (by rw [f2.2, e1])
set_option maxRecDepth 100000 in
set_option maxHeartbeats 4000000 in
theorem zl_loop {L : Nat} {sc : Nat × (Nat → Int32)} (hL8 : sc.1 = L) (hL : L ≤ 384) : ∀ (n i : Nat), L ≤ i + n → i ≤ L → ∀ (τ : zTd) (S : zES) (H : zSH) (μ : zq_Me), zIc τ S H μ → zIm τ S H μ → μ.2.2.2 = sc → zq_Wp zn_L_law 18 [(0, .ref 77), (1, .ref 0), (2, .ref 50), (3, .int (nI i))] [] μ (fun v _ => v = some (.int 1)) := by
  have hend : ∀ (i : Nat) (μ : zq_Me), zq_Wp zn_L_law 1335 [(0, .ref 77), (1, .ref 0), (2, .ref 50), (3, .int (nI i))] [] μ (fun v _ => v = some (.int 1)) := fun i μ => by
    refine zq_go zt_L_law 1 [] 1336 [(0, .ref 77), (1, .ref 0), (2, .ref 50), (3, .int (nI i))] [.int (nI 1)] μ rfl trivial ?_
    exact zq_retz zt_L_law rfl (Or.inr rfl) rfl
  intro n
  induction n with
  | zero =>
    intro i h1 h2 τ S H μ hC hM hs
    have hL0 : μ.2.2.2.1 = L := by rw [hs]; exact hL8
    refine zq_go zt_L_law 6 [] (if (nI μ.2.2.2.1) - (nI 6) < (nI i) then 1335 else 27) [(0, .ref 77), (1, .ref 0), (2, .ref 50), (3, .int (nI i))] [] μ rfl trivial ?_
    rw [hL0, if_pos (by rw [zl_gt6 hL (by omega)]; omega)]
    exact hend i μ
  | succ n ih =>
    intro i h1 h2 τ S H μ hC hM hs
    have hL0 : μ.2.2.2.1 = L := by rw [hs]; exact hL8
    refine zq_go zt_L_law 6 [] (if (nI μ.2.2.2.1) - (nI 6) < (nI i) then 1335 else 27) [(0, .ref 77), (1, .ref 0), (2, .ref 50), (3, .int (nI i))] [] μ rfl trivial ?_
    rw [hL0]
    refine zq_ite (fun _ => hend i μ) (fun h3 => ?_)
    rw [zl_gt6 hL (by omega)] at h3
    have kk : zlK (fun v _ => v = some (.int 1)) i L sc := fun τ S H μ hC hM hs => by
      refine zq_go zt_L_law 2 [] 18 [(0, .ref 77), (1, .ref 0), (2, .ref 50), (3, .int ((nI i) + (nI 6)))] [] μ rfl trivial ?_
      rw [zn_add i 6]
      exact ih (i + 6) (by omega) (by omega) τ S H μ hC hM hs
    refine zq_go zt_L_law 6 [vp_in (nI i) μ.2.2.2.1] (zq_tgt 0 36 1329 [196, 229, 252, 275, 298, 331, 364, 387, 430, 443, 466, 509, 542, 585, 618, 641, 664, 687, 700, 733, 766, 789, 812, 855, 868, 881, 914, 937, 991, 1034, 1077, 1100, 1153, 1196, 1259, 1292, 1315] ((μ.2.2.2.2 (nI i).toNatClampNeg) &&& (nI 63))) [(0, .ref 77), (1, .ref 0), (2, .ref 50), (3, .int (nI i))] [] μ rfl ⟨zn_in (k := i) rfl (by omega) (by omega), trivial⟩ ?_
    exact zl_tgt (kk τ S H μ hC hM hs) (List.forall_mem_cons.mpr ⟨zl_type hL8 (by omega) hL kk hC hM hs, List.forall_mem_cons.mpr ⟨zl_wipe hL8 (by omega) hL kk hC hM hs, List.forall_mem_cons.mpr ⟨zl_undo hL8 (by omega) hL kk hC hM hs, List.forall_mem_cons.mpr ⟨zl_fault hL8 (by omega) hL kk hC hM hs, List.forall_mem_cons.mpr ⟨zl_door hL8 (by omega) hL kk hC hM hs, List.forall_mem_cons.mpr ⟨zl_person hL8 (by omega) hL kk hC hM hs, List.forall_mem_cons.mpr ⟨zl_ahead hL8 (by omega) hL kk hC hM hs, List.forall_mem_cons.mpr ⟨zl_event hL8 (by omega) hL kk hC hM hs, List.forall_mem_cons.mpr ⟨zl_back hL8 (by omega) hL kk hC hM hs, List.forall_mem_cons.mpr ⟨zl_read hL8 (by omega) hL kk hC hM hs, List.forall_mem_cons.mpr ⟨zl_at hL8 (by omega) hL kk hC hM hs, List.forall_mem_cons.mpr ⟨zl_room hL8 (by omega) hL kk hC hM hs, List.forall_mem_cons.mpr ⟨zl_far hL8 (by omega) hL kk hC hM hs, List.forall_mem_cons.mpr ⟨zl_meet hL8 (by omega) hL kk hC hM hs, List.forall_mem_cons.mpr ⟨zl_empty hL8 (by omega) hL kk hC hM hs, List.forall_mem_cons.mpr ⟨zl_found hL8 (by omega) hL kk hC hM hs, List.forall_mem_cons.mpr ⟨zl_crowd hL8 (by omega) hL kk hC hM hs, List.forall_mem_cons.mpr ⟨zl_alone hL8 (by omega) hL kk hC hM hs, List.forall_mem_cons.mpr ⟨zl_sleep hL8 (by omega) hL kk hC hM hs, List.forall_mem_cons.mpr ⟨zl_nice hL8 (by omega) hL kk hC hM hs, List.forall_mem_cons.mpr ⟨zl_lens hL8 (by omega) hL kk hC hM hs, List.forall_mem_cons.mpr ⟨zl_spare hL8 (by omega) hL kk hC hM hs, List.forall_mem_cons.mpr ⟨zl_seen hL8 (by omega) hL kk hC hM hs, List.forall_mem_cons.mpr ⟨zl_forget hL8 (by omega) hL kk hC hM hs, List.forall_mem_cons.mpr ⟨zl_never hL8 (by omega) hL kk hC hM hs, List.forall_mem_cons.mpr ⟨zl_was hL8 (by omega) hL kk hC hM hs, List.forall_mem_cons.mpr ⟨zl_ask hL8 (by omega) hL kk hC hM hs, List.forall_mem_cons.mpr ⟨zl_chance hL8 (by omega) hL kk hC hM hs, List.forall_mem_cons.mpr ⟨zl_weeks hL8 (by omega) hL kk hC hM hs, List.forall_mem_cons.mpr ⟨zl_sheet hL8 (by omega) hL kk hC hM hs, List.forall_mem_cons.mpr ⟨zl_lose hL8 (by omega) hL kk hC hM hs, List.forall_mem_cons.mpr ⟨zl_put hL8 (by omega) hL kk hC hM hs, List.forall_mem_cons.mpr ⟨zl_get hL8 (by omega) hL kk hC hM hs, List.forall_mem_cons.mpr ⟨zl_copy hL8 (by omega) hL kk hC hM hs, List.forall_mem_cons.mpr ⟨zl_write hL8 (by omega) hL kk hC hM hs, List.forall_mem_cons.mpr ⟨zl_count hL8 (by omega) hL kk hC hM hs, List.forall_mem_cons.mpr ⟨zl_digest hL8 (by omega) hL kk hC hM hs, fun _ h => absurd h List.not_mem_nil⟩⟩⟩⟩⟩⟩⟩⟩⟩⟩⟩⟩⟩⟩⟩⟩⟩⟩⟩⟩⟩⟩⟩⟩⟩⟩⟩⟩⟩⟩⟩⟩⟩⟩⟩⟩⟩)
