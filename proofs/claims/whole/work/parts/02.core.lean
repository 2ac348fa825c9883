/-! ===== an abstract machine over the fixed world: its state is a table of numbers; each instruction is a function; each is held against the machine by one row of the kit ===== -/
abbrev zq_Lo : Type := List (Nat × Value)
abbrev zq_Me : Type := (Nat → Nat → Int32) × (Nat → Nat → Int64) × (Nat → Nat → Nat) × (Nat × (Nat → Int32))
abbrev zq_Rs : Type := List Prop × Nat × zq_Lo × List Value × zq_Me
abbrev zq_Op : Type := zq_Lo → List Value → zq_Me → Option zq_Rs
abbrev zq_G : Type := va_G × (Nat → ClassId) × (Nat → Nat) × (Nat × (Nat → Int32))
def zq_ad (g : zq_G) (k : Nat) : Nat := g.2.2.1 k
def zq_cA (g : zq_G) (k : Nat) : ClassId := g.2.1 k
/-- a private method of a class that cannot be made, called on an object of a class below it -/
theorem zq_selp {C : String} {y z : MethodName} {s : State} {args : Array Value} (hy : y.cls ≠ "java/lang/invoke/MethodHandle" ∧ y.cls ≠ "java/lang/invoke/VarHandle") (hz : z.cls = y.cls) (h1 : (Cond.selects C z z).before args s = true) (hpriv : (Cond.privateMethod y).before args s = true) (hinst : (Cond.instanceMethod y).before args s = true) : (Cond.selects C y y).before args s = true := by
  obtain ⟨c, r, m, hc, -, hn, -, kk, hk, hni⟩ := Cond.selects_spec h1
  obtain ⟨mk, methM, hnamed, hmethM, -, -⟩ := Cond.instanceMethod_spec hinst
  have hfound : s.methodFound? y.cls y.name y.desc = some mk := State.methodFound?_of_named hnamed hy
  have hcls : mk.cls = m.cls := Option.some.inj ((findClass_of_methodNamed hnamed).symm.trans (by rw [← hz]; exact findClass_of_methodNamed hn))
  have hsel : selectMethod {} s.vm c mk = .method mk := selectMethod_private hmethM (Cond.privateMethod_at hpriv mk methM hnamed hmethM)
  simp only [Cond.before, Cond.holds, Cond.value, hc, hfound, hnamed, hsel, hcls, hk]
  simp; exact hni
def zq_ext : List Cond := [.selects RX0 yX6_understand yX6_understand, .selects RX3 yX6_understand yX6_understand, .selects RX0 yX6_firstFault yX6_firstFault, .selects RX3 yX6_firstFault yX6_firstFault]
def zq_W : List Cond := (zq_ext ++ lw_tbl).filter goodWord
theorem zq_inW {w : Cond} (h : w ∈ lw_tbl) (hg : goodWord w = true) : w ∈ zq_W := List.mem_filter.mpr ⟨List.mem_append_right _ h, hg⟩
theorem zq_inX {w : Cond} (h : w ∈ zq_ext) (hg : goodWord w = true) : w ∈ zq_W := List.mem_filter.mpr ⟨List.mem_append_left _ h, hg⟩
def zq_sh (a : Nat) : Nat × Nat × List Nat := zq_shape.getD a (9, 0, [])
def zq_cv (g : zq_G) (v : Value) : Value := match v with
  | .ref k => .ref (zq_ad g k)
  | w => w
def zq_fv (a j code : Nat) (μ : zq_Me) : Value := match code with
  | 0 => .int (μ.1 a j)
  | 1 => .ref (μ.2.2.1 a j)
  | n + 2 => .ref n
def zq_fvs (a : Nat) (μ : zq_Me) : Nat → List Nat → List Value
  | _, [] => []
  | j, c :: r => zq_fv a j c μ :: zq_fvs a μ (j + 1) r
def zq_ce (g : zq_G) (μ : zq_Me) (a : Nat) : va_E := match zq_sh a with
  | (0, ci, cs) => .inr (ci, (zq_fvs a μ 0 cs).map (zq_cv g))
  | (1, n, _) => .inl (zq_cA g 0, (n, .inl (μ.1 a)))
  | (2, n, _) => .inl (zq_cA g 1, (n, .inr (.inl (μ.2.1 a))))
  | (3, n, _) => .inl (zq_cA g 2, (n, .inl (μ.1 a)))
  | (_, n, cs) => .inl (zq_cA g 3, (n, .inr (.inr (.inr (.inr (fun j => some (zq_ad g (cs.getD j 0))))))))
def zq_ws (g : zq_G) (μ : zq_Me) : va_W := (List.range zq_nC).map (fun a => (zq_ad g a, zq_ce g μ a))
def zq_tys (g : zq_G) : List (ClassId × FieldType) := [(zq_cA g 0, .int), (zq_cA g 1, .long), (zq_cA g 2, .boolean), (zq_cA g 3, .object "DollsAhead$Sheet")]
def zq_A (g : zq_G) : Nat → Prop := fun q => ∃ k, k < zq_nC ∧ q = zq_ad g k
def zq_inj (g : zq_G) : Prop := ∀ i j, i ≤ zq_nC → j ≤ zq_nC → zq_ad g i = zq_ad g j → i = j
theorem zq_at {g : zq_G} {μ : zq_Me} {a : Nat} (h : a < zq_nC) : (zq_ws g μ)[a]? = some (zq_ad g a, zq_ce g μ a) := by
  unfold zq_ws
  rw [List.getElem?_map, List.getElem?_range h]
  rfl
theorem zq_len {g : zq_G} {μ : zq_Me} : (zq_ws g μ).length = zq_nC := by simp [zq_ws]
theorem zq_kind {a : Nat} : (zq_sh a).1 < 5 ∧ a < zq_nC ∨ (zq_sh a).1 = 5 ∧ a = zq_nC ∨ 5 < (zq_sh a).1 := by
  by_cases hl : a < 78
  · have : ∀ b, b < 78 → ((zq_sh b).1 < 5 ∧ b < zq_nC ∨ (zq_sh b).1 = 5 ∧ b = zq_nC ∨ 5 < (zq_sh b).1) := by decide +kernel
    exact this a hl
  · have hn : zq_shape.length = 78 := by decide +kernel
    have h : zq_sh a = (9, 0, []) := by
      unfold zq_sh
      rw [List.getD_eq_getElem?_getD, List.getElem?_eq_none (by omega)]
      rfl
    rw [h]
    exact Or.inr (Or.inr (by decide))
theorem zq_lt {a n : Nat} {x : Nat × List Nat} (h : zq_sh a = (n, x)) (hn : n < 5) : a < zq_nC := by
  rcases zq_kind (a := a) with ⟨-, h2⟩ | ⟨h1, -⟩ | h1
  · exact h2
  · rw [h] at h1; exact absurd h1 (by show ¬ n = 5; omega)
  · rw [h] at h1; exact absurd h1 (by show ¬ 5 < n; omega)
theorem zq_is5 {a : Nat} {x : Nat × List Nat} (h : zq_sh a = (5, x)) : a = zq_nC := by
  rcases zq_kind (a := a) with ⟨h1, -⟩ | ⟨-, h2⟩ | h1
  · rw [h] at h1; exact absurd h1 (by show ¬ 5 < 5; omega)
  · exact h2
  · rw [h] at h1; exact absurd h1 (by show ¬ 5 < 5; omega)
theorem zq_dis {g : zq_G} (h : zq_inj g) (μ : zq_Me) : va_D (zq_A g) (zq_ws g μ) := by
  have key : ∀ (k : Nat) (q : Nat × va_E), (zq_ws g μ)[k]? = some q → k < zq_nC ∧ q.1 = zq_ad g k := by
    intro k q hk
    have hl : k < zq_nC := by
      have h1 := (List.getElem?_eq_some_iff.mp hk).1
      rw [zq_len] at h1
      exact h1
    rw [zq_at hl] at hk
    cases hk
    exact ⟨hl, rfl⟩
  refine ⟨fun i j p q hi hj hpq => ?_, fun k q hk => ?_⟩
  · obtain ⟨a1, a2⟩ := key i p hi
    obtain ⟨b1, b2⟩ := key j q hj
    exact h i j (Nat.le_of_lt a1) (Nat.le_of_lt b1) (by rw [← a2, ← b2]; exact hpq)
  · obtain ⟨a1, a2⟩ := key k q hk
    exact ⟨k, a1, a2⟩
theorem zq_set {g : zq_G} {μ μ' : zq_Me} {a : Nat} {e : va_E} (h1 : zq_ce g μ' a = e) (h2 : ∀ j, j ≠ a → zq_ce g μ' j = zq_ce g μ j) : (zq_ws g μ).set a (zq_ad g a, e) = zq_ws g μ' := by
  apply List.ext_getElem?
  intro k
  by_cases hk : k < zq_nC
  · rw [zq_at hk]
    by_cases hka : a = k
    · subst hka
      rw [List.getElem?_set_self (by rw [zq_len]; exact hk), h1]
    · rw [List.getElem?_set_ne hka, zq_at hk, h2 k (Ne.symm hka)]
  · rw [List.getElem?_eq_none (by rw [List.length_set, zq_len]; omega), List.getElem?_eq_none (by rw [zq_len]; omega)]
def zq_u1 (μ : zq_Me) (a i : Nat) (x : Int32) : zq_Me := (fun b => if b = a then upd (μ.1 a) i x else μ.1 b, μ.2)
def zq_u2 (μ : zq_Me) (a i : Nat) (x : Int64) : zq_Me := (μ.1, fun b => if b = a then vp_updL (μ.2.1 a) i x else μ.2.1 b, μ.2.2)
def zq_u3 (μ : zq_Me) (a i n : Nat) : zq_Me := (μ.1, μ.2.1, fun b => if b = a then (fun j => if j = i then n else μ.2.2.1 a j) else μ.2.2.1 b, μ.2.2.2)
def zq_ur (μ : zq_Me) (a : Nat) (f : Nat → Int32) : zq_Me := (fun b => if b = a then f else μ.1 b, μ.2)
theorem zq_fv_congr {μ μ' : zq_Me} {a : Nat} (h1 : μ.1 a = μ'.1 a) (h3 : μ.2.2.1 a = μ'.2.2.1 a) (j c : Nat) : zq_fv a j c μ = zq_fv a j c μ' := by
  unfold zq_fv
  split
  · rw [h1]
  · rw [h3]
  · rfl
theorem zq_fvs_congr {μ μ' : zq_Me} {a : Nat} (h1 : μ.1 a = μ'.1 a) (h3 : μ.2.2.1 a = μ'.2.2.1 a) : ∀ (cs : List Nat) (j : Nat), zq_fvs a μ j cs = zq_fvs a μ' j cs
  | [], _ => rfl
  | c :: r, j => by
    show zq_fv a j c μ :: zq_fvs a μ (j + 1) r = zq_fv a j c μ' :: zq_fvs a μ' (j + 1) r
    rw [zq_fvs_congr h1 h3 r (j + 1), zq_fv_congr h1 h3]
theorem zq_ce_congr {g : zq_G} {μ μ' : zq_Me} {a : Nat} (h1 : μ.1 a = μ'.1 a) (h2 : μ.2.1 a = μ'.2.1 a) (h3 : μ.2.2.1 a = μ'.2.2.1 a) : zq_ce g μ a = zq_ce g μ' a := by
  unfold zq_ce
  split
  · rw [zq_fvs_congr h1 h3]
  · rw [h1]
  · rw [h2]
  · rw [h1]
  · rfl
theorem zq_fvs_get {μ : zq_Me} {a : Nat} : ∀ (cs : List Nat) (o j : Nat), (zq_fvs a μ o cs)[j]? = (cs[j]?).map (fun c => zq_fv a (o + j) c μ)
  | [], _, _ => by simp [zq_fvs]
  | c :: r, o, 0 => by simp [zq_fvs]
  | c :: r, o, j + 1 => by
    show (zq_fv a o c μ :: zq_fvs a μ (o + 1) r)[j + 1]? = _
    rw [List.getElem?_cons_succ, List.getElem?_cons_succ, zq_fvs_get r (o + 1) j, show o + 1 + j = o + (j + 1) by omega]
theorem zq_fvs_len {μ : zq_Me} {a : Nat} : ∀ (cs : List Nat) (o : Nat), (zq_fvs a μ o cs).length = cs.length
  | [], _ => rfl
  | c :: r, o => by show (zq_fvs a μ (o + 1) r).length + 1 = r.length + 1; rw [zq_fvs_len r (o + 1)]
theorem zq_fvs_set1 {μ : zq_Me} {a j : Nat} {x : Int32} (cs : List Nat) (hj : cs[j]? = some 0) : zq_fvs a (zq_u1 μ a j x) 0 cs = (zq_fvs a μ 0 cs).set j (.int x) := by
  apply List.ext_getElem?
  intro k
  rw [zq_fvs_get]
  by_cases hk : j = k
  · subst hk
    rw [List.getElem?_set_self (by rw [zq_fvs_len]; exact (List.getElem?_eq_some_iff.mp hj).1), hj]
    simp [zq_fv, zq_u1, upd]
  · rw [List.getElem?_set_ne hk, zq_fvs_get]
    cases hc : cs[k]? with
    | none => rfl
    | some c =>
      show some (zq_fv a (0 + k) c _) = some (zq_fv a (0 + k) c _)
      rcases c with _ | _ | n
      · simp [zq_fv, zq_u1, upd, Ne.symm hk]
      · rfl
      · rfl
theorem zq_fvs_set3 {μ : zq_Me} {a j n : Nat} (cs : List Nat) (hj : cs[j]? = some 1) : zq_fvs a (zq_u3 μ a j n) 0 cs = (zq_fvs a μ 0 cs).set j (.ref n) := by
  apply List.ext_getElem?
  intro k
  rw [zq_fvs_get]
  by_cases hk : j = k
  · subst hk
    rw [List.getElem?_set_self (by rw [zq_fvs_len]; exact (List.getElem?_eq_some_iff.mp hj).1), hj]
    simp [zq_fv, zq_u3]
  · rw [List.getElem?_set_ne hk, zq_fvs_get]
    cases hc : cs[k]? with
    | none => rfl
    | some c =>
      show some (zq_fv a (0 + k) c _) = some (zq_fv a (0 + k) c _)
      rcases c with _ | _ | n
      · rfl
      · simp [zq_fv, zq_u3, Ne.symm hk]
      · rfl
/-! the locals: a list by places -/
def zq_lk (i : Nat) : zq_Lo → Option Value
  | [] => none
  | q :: r => bif Nat.beq q.1 i then some q.2 else zq_lk i r
theorem zq_lk_mem {i : Nat} {v : Value} : ∀ {lo : zq_Lo}, zq_lk i lo = some v → (i, v) ∈ lo
  | [], h => by cases h
  | q :: r, h => by
    unfold zq_lk at h
    cases hb : Nat.beq q.1 i with
    | true =>
      rw [hb] at h
      cases h
      have := Nat.eq_of_beq_eq_true hb
      subst this
      exact List.mem_cons_self
    | false =>
      rw [hb] at h
      exact List.mem_cons_of_mem _ (zq_lk_mem h)
def zq_ml (g : zq_G) (lo : zq_Lo) : List (Nat × Value) := lo.map (fun q => (q.1, zq_cv g q.2))
theorem zq_lv {g : zq_G} {ls : Array Slot} {nL i : Nat} {lo : zq_Lo} {v : Value} (h : lv_has ls nL (zq_ml g lo)) (hk : zq_lk i lo = some v) : ls[i]? = some (.val (zq_cv g v)) :=
  h.2.2 (i, zq_cv g v) (List.mem_map.mpr ⟨(i, v), zq_lk_mem hk, rfl⟩)
theorem zq_lv_sub {ls : Array Slot} {nL : Nat} {l l' : List (Nat × Value)} (h : lv_has ls nL l) (hs : ∀ q ∈ l', q ∈ l) : lv_has ls nL l' := ⟨h.1, h.2.1, fun q hq => h.2.2 q (hs q hq)⟩
def zq_ins (i : Nat) (v : Value) : zq_Lo → zq_Lo
  | [] => [(i, v)]
  | q :: r => bif Nat.blt i q.1 then (i, v) :: q :: r else q :: zq_ins i v r
theorem zq_ins_mem {i : Nat} {v : Value} {q : Nat × Value} : ∀ {lo : zq_Lo}, q ∈ zq_ins i v lo → q = (i, v) ∨ q ∈ lo
  | [], h => by
    rcases List.mem_cons.mp h with h | h
    · exact Or.inl h
    · cases h
  | a :: r, h => by
    unfold zq_ins at h
    cases hb : Nat.blt i a.1 with
    | true =>
      rw [hb] at h
      rcases List.mem_cons.mp h with h | h
      · exact Or.inl h
      · exact Or.inr h
    | false =>
      rw [hb] at h
      rcases List.mem_cons.mp h with h | h
      · exact Or.inr (by rw [h]; exact List.mem_cons_self)
      · rcases zq_ins_mem h with h | h
        · exact Or.inl h
        · exact Or.inr (List.mem_cons_of_mem _ h)
def zq_st1 (i : Nat) (v : Value) (lo : zq_Lo) : zq_Lo := zq_ins i v (lo.filter (fun q => !(q.1 == i) && !(q.1 + 1 == i && q.2.category == 2)))
def zq_st2 (i : Nat) (v : Value) (lo : zq_Lo) : zq_Lo := zq_ins i v (lo.filter (fun q => !(q.1 == i) && (!(q.1 == i + 1) && !(q.1 + 1 == i && q.2.category == 2))))
theorem zq_cv_cat (g : zq_G) (v : Value) : (zq_cv g v).category = v.category := by cases v <;> rfl
theorem zq_has1 {g : zq_G} {ls : Array Slot} {nL i : Nat} {lo : zq_Lo} {v : Value} (h : lv_has ls nL ((i, zq_cv g v) :: (zq_ml g lo).filter (fun q => !(q.1 == i) && !(q.1 + 1 == i && q.2.category == 2)))) : lv_has ls nL (zq_ml g (zq_st1 i v lo)) := by
  refine zq_lv_sub h fun q hq => ?_
  obtain ⟨q0, h0, rfl⟩ := List.mem_map.mp hq
  rcases zq_ins_mem h0 with rfl | h1
  · exact List.mem_cons_self
  · obtain ⟨h2, h3⟩ := List.mem_filter.mp h1
    refine List.mem_cons_of_mem _ (List.mem_filter.mpr ⟨List.mem_map.mpr ⟨q0, h2, rfl⟩, ?_⟩)
    dsimp only
    rw [zq_cv_cat]
    exact h3
theorem zq_has2 {g : zq_G} {ls : Array Slot} {nL i : Nat} {lo : zq_Lo} {v : Value} (h : lv_has ls nL ((i, zq_cv g v) :: (zq_ml g lo).filter (fun q => !(q.1 == i) && (!(q.1 == i + 1) && !(q.1 + 1 == i && q.2.category == 2))))) : lv_has ls nL (zq_ml g (zq_st2 i v lo)) := by
  refine zq_lv_sub h fun q hq => ?_
  obtain ⟨q0, h0, rfl⟩ := List.mem_map.mp hq
  rcases zq_ins_mem h0 with rfl | h1
  · exact List.mem_cons_self
  · obtain ⟨h2, h3⟩ := List.mem_filter.mp h1
    refine List.mem_cons_of_mem _ (List.mem_filter.mpr ⟨List.mem_map.mpr ⟨q0, h2, rfl⟩, ?_⟩)
    dsimp only
    rw [zq_cv_cat]
    exact h3
def zq_all : List Prop → Prop
  | [] => True
  | a :: l => a ∧ zq_all l
/-! what holds along a method's walk -/
def zq_dl : List MethodName := [⟨"DollsAhead$Text", "fits", "(II)Z"⟩, ⟨"DollsAhead$Text", "readThings", "()V"⟩]
def zq_Dk (U : State) : Prop := ∀ x ∈ zq_dl, va_Nw (.declares x) U
theorem zq_Dk.warm {s U : State} (hW : s.WarmedH U.vm) (h : zq_Dk s) : zq_Dk U := fun x hx => va_Nw.warmD hW (h x hx)
theorem zq_Dk.same {s U : State} (hv : s.vm = U.vm) (h : zq_Dk s) : zq_Dk U := fun x hx => va_tabs rfl hv (h x hx)
def zq_Cx (g : zq_G) (cc : ByteArray) (nL : Nat) (own : String) (rf rl : Nat) (R : Room) (p : Program) (s : State) (m : MethodId) (args : Array Value) (c : Code) (cells slots : Nat) : Prop :=
  p.tables.exec = Jvm.exec ∧ c.code = cc ∧ c.maxLocals = nL ∧ s.vm.findClass own = some m.cls ∧ (∀ w ∈ zq_W, w.before args s = true) ∧ va_K g.1 vwCl (zq_tys g) s ∧ va_X (zq_ad g zq_nC) g.2.2.2.1 g.2.2.2.2 s s.heap ∧ zq_ad g zq_nC < s.heap.size ∧ zq_inj g ∧ rf ≤ R.frames ∧ rl ≤ R.locals ∧ cells ≤ R.cells ∧ slots ≤ R.slots ∧ zq_Dk s
def zq_St (g : zq_G) (s : State) (H : Heap) (locs : List Loc) (nL : Nat) (ls : Array Slot) (lo : zq_Lo) (μ : zq_Me) : Prop :=
  va_P g.1 vwCl (zq_ws g μ) H ∧ va_S (zq_A g) s.heap H locs ∧ lv_has ls nL (zq_ml g lo) ∧ μ.2.2.2 = g.2.2.2
def zq_snd (cc : ByteArray) (nL : Nat) (own : String) (rf rl pc : Nat) (f : zq_Op) : Prop :=
  ∀ (g : zq_G) {p : Program} {l : Launch} {e : Env} {R : Room} {s : State} {m : MethodId} {args : Array Value} {below : List Frame} {meth : Method} {c : Code} {H : Heap} {locs : List Loc} {cells slots : Nat} {Z : State → Prop} {ls : Array Slot} {lo : zq_Lo} {st : List Value} {μ : zq_Me} {P : List Prop} {pc' : Nat} {lo' : zq_Lo} {st' : List Value} {μ' : zq_Me},
    zq_Cx g cc nL own rf rl R p s m args c cells slots → zq_St g s H locs nL ls lo μ → f lo st μ = some (P, pc', lo', st', μ') → zq_all P →
    (∀ (H' : Heap) (locs' : List Loc) (ls' : Array Slot), zq_St g s H' locs' nL ls' lo' μ' → W p l e R s m args below meth c H' locs' cells slots Z (F0 m pc' ls' (st'.map (zq_cv g)))) →
    W p l e R s m args below meth c H locs cells slots Z (F0 m pc ls (st.map (zq_cv g)))
theorem zq_notA {g : zq_G} (h : zq_inj g) : ¬ zq_A g (zq_ad g zq_nC) := by
  rintro ⟨k, h1, h2⟩
  have := h _ _ (Nat.le_refl _) (Nat.le_of_lt h1) h2
  omega
