/-! ===== what a run of the abstract machine comes to: the least relation that its steps close; and that the machine does the same ===== -/
def zq_ret (kind : Nat) (st : List Value) : Option (Option Value) := match kind, st with
  | 0, [] => some none
  | 1, [.int v] => some (some (.int v))
  | 3, [.long v] => some (some (.long v))
  | 4, [.ref a] => some (some (.ref a))
  | 4, [.null] => some (some .null)
  | _, _ => none
def zq_cal (c : Nat ⊕ List (Nat × Nat)) (as : List Value) : Option Nat := match c with
  | .inl k => some k
  | .inr cj => match as with
    | .ref a :: _ => match zq_sh a with
      | (0, ci, _) => zq_asc ci cj
      | _ => none
    | _ => none
abbrev zq_Post : Type := Option Value → zq_Me → Prop
abbrev zq_Rel : Type := Nat → Nat → zq_Lo → List Value → zq_Me → zq_Post → Prop
def zq_at' (k pc : Nat) (it : zq_It) : Prop := ∃ e, zq_tab[k]? = some e ∧ (pc, it) ∈ e.2
def zq_cl (X : zq_Rel) : Prop :=
  (∀ k pc kind lo st μ Q v, zq_at' k pc (.inr (.inr kind)) → (kind = 2 ∧ (∃ b : Int32, st = [.int b] ∧ v = some (.int b) ∧ (b = 0 ∨ b = 1)) ∨ zq_ret kind st = some v) → Q v μ → X k pc lo st μ Q) ∧
  (∀ k pc lo lo' st μ Q, (∀ q ∈ lo', q ∈ lo) → X k pc lo' st μ Q → X k pc lo st μ Q) ∧
  (∀ k pc f P pc' lo lo' st st' μ μ' Q, zq_at' k pc (.inl f) → f lo st μ = some (P, pc', lo', st', μ') → zq_all P → X k pc' lo' st' μ' Q → X k pc lo st μ Q) ∧
  (∀ k pc n c k' i' as rest lo μ Q1 Q, zq_at' k pc (.inr (.inl (n, c))) → zq_cal c as = some k' → zq_inf[k']? = some i' → as.length = n → zq_cats rest ≤ 8 → (lg_sl as).length ≤ i'.2.2.1 → X k' 0 (lv_args 0 as) [] μ Q1 → (∀ v μ', Q1 v μ' → X k (pc + 3) lo (v.toList ++ rest) μ' Q) → X k pc lo (as.reverse ++ rest) μ Q)
def zq_Wp : zq_Rel := fun k pc lo st μ Q => ∀ X, zq_cl X → X k pc lo st μ Q
theorem zq_Wp_cl : zq_cl zq_Wp := by
  refine ⟨?_, ?_, ?_, ?_⟩
  · intro k pc kind lo st μ Q v h1 h2 h3 X hX
    exact hX.1 k pc kind lo st μ Q v h1 h2 h3
  · intro k pc lo lo' st μ Q h1 h2 X hX
    exact hX.2.1 k pc lo lo' st μ Q h1 (h2 X hX)
  · intro k pc f P pc' lo lo' st st' μ μ' Q h1 h2 h3 h4 X hX
    exact hX.2.2.1 k pc f P pc' lo lo' st st' μ μ' Q h1 h2 h3 (h4 X hX)
  · intro k pc n c k' i' as rest lo μ Q1 Q h1 h2 h3 h4 h5 h6 h7 h8 X hX
    exact hX.2.2.2 k pc n c k' i' as rest lo μ Q1 Q h1 h2 h3 h4 h5 h6 (h7 X hX) (fun v μ' h => h8 v μ' h X hX)
theorem zq_Wp_mono {k pc : Nat} {lo : zq_Lo} {st : List Value} {μ : zq_Me} {Q : zq_Post} (h : zq_Wp k pc lo st μ Q) : ∀ {Q' : zq_Post}, (∀ v μ', Q v μ' → Q' v μ') → zq_Wp k pc lo st μ Q' := by
  have key := h (fun k pc lo st μ Q => ∀ Q' : zq_Post, (∀ v μ', Q v μ' → Q' v μ') → zq_Wp k pc lo st μ Q') ⟨?_, ?_, ?_, ?_⟩
  · exact fun {Q'} hq => key Q' hq
  · intro k pc kind lo st μ Q v h1 h2 h3 Q' hq
    exact zq_Wp_cl.1 k pc kind lo st μ Q' v h1 h2 (hq v μ h3)
  · intro k pc lo lo' st μ Q h1 h2 Q' hq
    exact zq_Wp_cl.2.1 k pc lo lo' st μ Q' h1 (h2 Q' hq)
  · intro k pc f P pc' lo lo' st st' μ μ' Q h1 h2 h3 h4 Q' hq
    exact zq_Wp_cl.2.2.1 k pc f P pc' lo lo' st st' μ μ' Q' h1 h2 h3 (h4 Q' hq)
  · intro k pc n c k' i' as rest lo μ Q1 Q h1 h2 h3 h4 h5 h6 h7 h8 Q' hq
    exact zq_Wp_cl.2.2.2 k pc n c k' i' as rest lo μ Q1 Q' h1 h2 h3 h4 h5 h6 (h7 Q1 (fun _ _ h => h)) (fun v μ' h => h8 v μ' h Q' hq)
/-! the machine -/
def zq_X (l : Launch) : zq_Rel := fun k pc lo st μ Q => ∀ (i : zq_In), zq_inf[k]? = some i → ∀ (g : zq_G) {p : Program} {e : Env} {s : State} {m : MethodId} {args : Array Value} {below : List Frame} {meth : Method} {c : Code} {H : Heap} {locs : List Loc} {cells slots : Nat} {Z : State → Prop} {ls : Array Slot},
    zq_Cx g i.2.1 i.2.2.1 i.1.cls i.2.2.2.2.frames i.2.2.2.2.locals i.2.2.2.2 p s m args c cells slots → zq_St g s H locs i.2.2.1 ls lo μ →
    (∀ (v : Option Value) (μ' : zq_Me) (pc' kind : Nat) (H' : Heap) (locs' : List Loc) (ls' : Array Slot), zq_rok i pc' kind → (kind = 2 ∧ (∃ b : Int32, v = some (.int b) ∧ (b = 0 ∨ b = 1)) ∨ zq_ret kind v.toList = some v) → Q v μ' → va_P g.1 vwCl (zq_ws g μ') H' → va_S (zq_A g) s.heap H' locs' → μ'.2.2.2 = g.2.2.2 → W p l e i.2.2.2.2 s m args below meth c H' locs' cells slots Z (F0 m pc' ls' (v.toList.map (zq_cv g)))) →
    W p l e i.2.2.2.2 s m args below meth c H locs cells slots Z (F0 m pc ls (st.map (zq_cv g)))
theorem zq_okat {k pc : Nat} {it : zq_It} {i : zq_In} (h : zq_at' k pc it) (hi : zq_inf[k]? = some i) : zq_ok i pc it := by
  obtain ⟨e, h1, h2⟩ := h
  have h3 := zq_tab_ok e (List.mem_of_getElem? h1) _ h2
  have h4 : zq_inf[k]? = some e.1 := by rw [← zq_tab_inf, List.getElem?_map, h1]; rfl
  rw [hi] at h4
  cases h4
  exact h3
theorem zq_sl_map (g : zq_G) : ∀ as : List Value, (lg_sl (as.map (zq_cv g))).length = (lg_sl as).length
  | [] => rfl
  | v :: r => by
    have ih := zq_sl_map g r
    unfold lg_sl at ih ⊢
    simp only [List.map_cons, List.flatMap_cons, List.length_append, ih, zq_cv_cat]
    split <;> rfl
theorem zq_args_map (g : zq_G) : ∀ (as : List Value) (n : Nat), lv_args n (as.map (zq_cv g)) = zq_ml g (lv_args n as)
  | [], _ => rfl
  | v :: r, n => by
    show (n, zq_cv g v) :: lv_args (if (zq_cv g v).category = 2 then n + 2 else n + 1) (r.map (zq_cv g)) = (n, zq_cv g v) :: zq_ml g (lv_args (if v.category = 2 then n + 2 else n + 1) r)
    rw [zq_cv_cat, zq_args_map g r]
theorem zq_pl : ∀ i ∈ zq_inf, plainName i.1.cls = true := by decide +kernel
theorem zq_ret_list {kind : Nat} {st : List Value} {v : Option Value} (h : zq_ret kind st = some v) : st = v.toList ∧ (kind = 0 ∧ v = none ∨ kind = 1 ∧ (∃ x, v = some (.int x)) ∨ kind = 3 ∧ (∃ x, v = some (.long x)) ∨ kind = 4 ∧ (∃ x, v = some x ∧ (x = .null ∨ ∃ a, x = .ref a))) := by
  unfold zq_ret at h
  split at h
  · cases h; exact ⟨rfl, Or.inl ⟨rfl, rfl⟩⟩
  · cases h; exact ⟨rfl, Or.inr (Or.inl ⟨rfl, _, rfl⟩)⟩
  · cases h; exact ⟨rfl, Or.inr (Or.inr (Or.inl ⟨rfl, _, rfl⟩))⟩
  · cases h; exact ⟨rfl, Or.inr (Or.inr (Or.inr ⟨rfl, _, rfl, Or.inr ⟨_, rfl⟩⟩))⟩
  · cases h; exact ⟨rfl, Or.inr (Or.inr (Or.inr ⟨rfl, _, rfl, Or.inl rfl⟩))⟩
  · cases h
theorem zq_met {l : Launch} {k' : Nat} {i' : zq_In} (hi : zq_inf[k']? = some i') (g : zq_G) {as : List Value} {μ : zq_Me} {Q1 : zq_Post} (hlen : (lg_sl as).length ≤ i'.2.2.1) (h : zq_X l k' 0 (lv_args 0 as) [] μ Q1) : zq_Mt g l i'.1 i'.2.1 i'.2.2.1 i'.2.2.2.1 i'.2.2.2.2 as μ Q1 := by
  have hpl := zq_pl _ (List.mem_of_getElem? hi)
  have h := h _ hi
  clear hi
  obtain ⟨y, cc, nL, ret, rm⟩ := i'
  refine Met.ofW (cc := cc) (maxL := nL) (ret := ret) hpl rfl ?_
  intro p e s m args below meth c s₁ B hml hv
  obtain ⟨rfl, hP, hK, hX, hbl, hJ, hsc, hdk⟩ := hv
  have hts := atoms_spec (ws := Cond.code y cc nL ret :: zq_W) B.pre
  have hown : s.vm.findClass y.cls = some m.cls := findClass_of_methodNamed B.named
  have hx := B.exec
  have hb := B.bytes
  have hr : meth.sig.returnType = ret := B.returns
  have hlocks := B.notSynchronized
  have hl := lv_entry (as.map (zq_cv g)) (n := nL) (by rw [zq_sl_map]; exact hlen)
  rw [lg_entry_eq]
  generalize (lg_sl (as.map (zq_cv g)) ++ List.replicate (nL - (lg_sl (as.map (zq_cv g))).length) Slot.unset).toArray = ls at hl ⊢
  rw [zq_args_map] at hl
  refine h g (Z := MQ below (zq_Qc g Q1) _ s 0 0 (zq_A g)) (ls := ls) ⟨hx, hb, hml, hown, fun w hw => hts w (List.mem_cons_of_mem _ hw), hK, hX, hbl, hJ, Nat.le_refl _, Nat.le_refl _, Nat.zero_le _, Nat.zero_le _, hdk⟩ ⟨hP, va_S.rf, hl, hsc⟩ ?_
  intro v μ' pc' kind H' locs' ls' hk hv hq hP' hS' hsc'
  have hend : ∀ (a : Array Value) (t : State), t.heap = H' → zq_Qc g Q1 a s (.returned (v.map (zq_cv g))) t := fun a t ht => ⟨⟨v, μ', rfl, hq, by rw [ht]; exact hP', hsc'⟩, hS'.F ht⟩
  rcases hv with ⟨rfl, b, rfl, hb01⟩ | hv
  · obtain ⟨h1, h2⟩ := hk
    have h1 : ret = some .boolean := h1
    exact W.zret (ty := .boolean) hx hb (hr.trans h1) (by rcases hb01 with rfl | rfl <;> decide +kernel) (fun t ht _ => hend _ t ht) hS'.2.2 h2
  · obtain ⟨-, hv⟩ := zq_ret_list hv
    rcases hv with ⟨rfl, rfl⟩ | ⟨rfl, x, rfl⟩ | ⟨rfl, x, rfl⟩ | ⟨rfl, x, rfl, hx9⟩
    · obtain ⟨h1, h2⟩ := hk
      have h1 : ret = none := h1
      exact W.vret hx hb (hr.trans h1) (fun t ht _ => hend _ t ht) hS'.2.2 h2
    · obtain ⟨h1, h2⟩ := hk
      have h1 : ret = some .int := h1
      exact W.iret hx hb (hr.trans h1) (fun t ht _ => hend _ t ht) hS'.2.2 h2
    · obtain ⟨h1, h2⟩ := hk
      have h1 : ret = some .long := h1
      exact W.lret hx hb (hr.trans h1) (fun t ht _ => hend _ t ht) hS'.2.2 h2
    · obtain ⟨⟨nm, h1⟩, h2⟩ := hk
      have h1 : ret = some (.object nm) := h1
      exact W.aret hx hb (hr.trans h1) (Or.inl ⟨_, rfl⟩) (by rcases hx9 with rfl | ⟨a, rfl⟩; exact Or.inl rfl; exact Or.inr ⟨_, rfl⟩) (fun t ht _ => hend _ t ht) hS'.2.2 h2
theorem zq_cal_spec {cj : List (Nat × Nat)} {as : List Value} {k' : Nat} (h : zq_cal (.inr cj) as = some k') : ∃ (a : Nat) (as' : List Value) (ci : Nat) (cs : List Nat), as = .ref a :: as' ∧ zq_sh a = (0, ci, cs) ∧ (ci, k') ∈ cj := by
  unfold zq_cal at h
  dsimp only at h
  split at h
  · rename_i a as'
    split at h
    · rename_i ci cs he
      exact ⟨a, as', ci, cs, rfl, he, zq_asc_mem h⟩
    · cases h
  · cases h
theorem zq_X_cl (l : Launch) : zq_cl (zq_X l) := by
  refine ⟨?_, ?_, ?_, ?_⟩
  · intro k pc kind lo st μ Q v hat hr hq i hi g p e s m args below meth c H locs cells slots Z ls hC hS hret
    have hok : zq_rok i pc kind := zq_okat hat hi
    have hst : st = v.toList ∧ (kind = 2 ∧ (∃ b : Int32, v = some (.int b) ∧ (b = 0 ∨ b = 1)) ∨ zq_ret kind v.toList = some v) := by
      rcases hr with ⟨rfl, b, rfl, rfl, hb⟩ | hr
      · exact ⟨rfl, Or.inl ⟨rfl, b, rfl, hb⟩⟩
      · have h1 := (zq_ret_list hr).1
        exact ⟨h1, Or.inr (by rw [← h1]; exact hr)⟩
    rw [hst.1]
    exact hret v μ pc kind H locs ls hok hst.2 hq hS.1 hS.2.1 hS.2.2.2
  · intro k pc lo lo' st μ Q hsub h i hi g p e s m args below meth c H locs cells slots Z ls hC hS hret
    refine h i hi g hC ⟨hS.1, hS.2.1, zq_lv_sub hS.2.2.1 (fun q hq => ?_), hS.2.2.2⟩ hret
    obtain ⟨q0, h1, rfl⟩ := List.mem_map.mp hq
    exact List.mem_map.mpr ⟨q0, hsub q0 h1, rfl⟩
  · intro k pc f P pc' lo lo' st st' μ μ' Q hat hf hP h i hi g p e s m args below meth c H locs cells slots Z ls hC hS hret
    have hok : zq_snd i.2.1 i.2.2.1 i.1.cls i.2.2.2.2.frames i.2.2.2.2.locals pc f := zq_okat hat hi
    exact hok g hC hS hf hP (fun H' locs' ls' hS' => h i hi g hC hS' hret)
  · intro k pc n cc k' i' as rest lo μ Q1 Q hat hcal hi' hlen hcats hsl h7 h8 i hi g p e s m args below meth c H locs cells slots Z ls hC hS hret
    have hM := zq_met hi' g hsl h7
    cases cc with
    | inl k1 =>
      cases hcal
      obtain ⟨i'', h1, hs⟩ : ∃ i'', zq_inf[k']? = some i'' ∧ zq_sndc i.2.1 i.2.2.1 i.1.cls i.2.2.2.2.frames i.2.2.2.2.locals pc n none i''.1 i''.2.1 i''.2.2.1 i''.2.2.2.1 i''.2.2.2.2 := zq_okat hat hi
      rw [hi'] at h1
      cases h1
      exact hs g hC hS hlen trivial hcats hM (fun v μ' H' locs' hq hS' => h8 v μ' hq i hi g hC hS' hret)
    | inr cj =>
      obtain ⟨a, as', ci, cs, e1, e2, e3⟩ := zq_cal_spec hcal
      have hok : ∀ q ∈ cj, ∃ i', zq_inf[q.2]? = some i' ∧ zq_sndc i.2.1 i.2.2.1 i.1.cls i.2.2.2.2.frames i.2.2.2.2.locals pc n (some q.1) i'.1 i'.2.1 i'.2.2.1 i'.2.2.2.1 i'.2.2.2.2 := zq_okat hat hi
      obtain ⟨i'', h1, hs⟩ := hok _ e3
      have h1 : zq_inf[k']? = some i'' := h1
      rw [hi'] at h1
      cases h1
      exact hs g hC hS hlen ⟨a, as', cs, e1, e2⟩ hcats hM (fun v μ' H' locs' hq hS' => h8 v μ' hq i hi g hC hS' hret)
/-- what the abstract machine comes to, the machine comes to -/
theorem zq_sound {l : Launch} {k pc : Nat} {lo : zq_Lo} {st : List Value} {μ : zq_Me} {Q : zq_Post} (h : zq_Wp k pc lo st μ Q) : zq_X l k pc lo st μ Q := h (zq_X l) (zq_X_cl l)
