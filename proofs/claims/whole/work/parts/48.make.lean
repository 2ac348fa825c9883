/-! ===== constructors, by the kit's rows: arrays' classes out of the tables; a contract for each; calls with the frame ===== -/
abbrev zy_i (g : zq_G) (N : Nat) : va_E := .inl (zq_cA g 0, (N, .inl (fun _ => 0)))
abbrev zy_m (g : zq_G) (N : Nat) : va_E := .inl (zq_cA g 0, (N, .inl (fun _ => -1)))
abbrev zy_l (g : zq_G) (N : Nat) : va_E := .inl (zq_cA g 1, (N, .inr (.inl (fun _ => 0))))
abbrev zy_z (g : zq_G) (N : Nat) : va_E := .inl (zq_cA g 2, (N, .inl (fun _ => 0)))
abbrev zy_q (g : zq_G) (N : Nat) (f : Nat → Option Nat) : va_E := .inl (zq_cA g 3, (N, .inr (.inr (.inr (.inr f)))))
def zy_r (l : List Nat) : Nat → Option Nat := fun j => some (l.getD j 0)
def zy_Nk (U : State) : Prop := va_Nw (.methodLinkNest RX8 25 yX1_init "DollsAhead") U ∧ va_Nw (.methodLinkNest RX8 35 yX2_init "DollsAhead") U ∧ va_Nw (.methodLinkNest RX8 42 yX5_init "DollsAhead") U ∧ va_AO "DollsAhead$Sheet" U
theorem zy_Nk.warm {s U : State} (hW : s.WarmedH U.vm) (h : zy_Nk s) : zy_Nk U := ⟨va_Nw.warmM hW h.1, va_Nw.warmM hW h.2.1, va_Nw.warmM hW h.2.2.1, va_AO.moved hW.alike h.2.2.2⟩
theorem zy_Nk.same {s U : State} (hv : s.vm = U.vm) (h : zy_Nk s) : zy_Nk U := ⟨va_tabs rfl hv h.1, va_tabs rfl hv h.2.1, va_tabs rfl hv h.2.2.1, va_AO.moved (by rw [hv]; exact Vm.Alike.refl _) h.2.2.2⟩
def zy_In (g : zq_G) (ws : va_W) (sz : Nat) (U : State) : Prop := U.heap.size = sz ∧ va_P g.1 vwCl ws U.heap ∧ va_K g.1 vwCl (zq_tys g) U ∧ va_D (fun _ => True) ws ∧ zy_Nk U
theorem zy_blind {g : zq_G} {av : List Value} {ws : va_W} {sz : Nat} : FrameBlind (va_Pc av (zy_In g ws sz)) := by
  intro a U h mk q
  obtain ⟨q0, q1, q2, q3, q4, q5⟩ := q
  exact ⟨q0, q1, q2, va_K.moved (u := U) (U := U.calling h mk a) (Vm.Alike.refl U.vm) q3, q4, zy_Nk.same (s := U) (U := U.calling h mk a) rfl q5⟩
def zy_Q (g : zq_G) (ws : va_W) (sz : Nat) {S : Type} (f : S → va_W) : Array Value → State → Outcome → State → Prop := va_Qv (fun _ : S => True) (fun u t => va_P g.1 vwCl (f u) t.heap ∧ va_D (va_A ws sz) (f u)) (va_A ws sz)
def zy_Mt (g : zq_G) (l : Launch) (y : MethodName) (bytes : ByteArray) (maxL : Nat) (rm : Room) (as : List Value) (ws : va_W) (sz : Nat) {S : Type} (f : S → va_W) (mc ms : Nat) : Prop :=
  Met l y (Cond.code y bytes maxL none :: zq_W) rm (va_Pc as (zy_In g ws sz)) (zy_Q g ws sz f) mc ms (va_A ws sz)
theorem zy_of {g : zq_G} {l : Launch} {y : MethodName} {cc : ByteArray} {nL : Nat} {rm : Room} {as : List Value} {ws : va_W} {sz : Nat} {S : Type} {f : S → va_W} {mc ms : Nat} (hpl : plainName y.cls = true) (hlen : (lg_sl as).length ≤ nL)
    (K : ∀ {p : Program} {e : Env} {s : State} {m : MethodId} {args : Array Value} {below : List Frame} {meth : Method} {c : Code}, p.tables.exec = Jvm.exec → c.code = cc → meth.sig.returnType = none → c.maxLocals = nL → s.vm.findClass y.cls = some m.cls → (∀ w ∈ zq_W, w.before args s = true) → meth.name = y.name → va_K g.1 vwCl (zq_tys g) s → zy_Nk s → meth.locks = false → ∀ (A : Nat → Prop), (∀ q, s.heap.size ≤ q → A q) → va_P g.1 vwCl ws s.heap → va_D A ws → ∀ ls : Array Slot, lv_has ls nL (lv_args 0 as) → va_S A s.heap s.heap [] →
      W p l e rm s m args below meth c s.heap [] 0 0 (MQ below (va_Qv (fun _ : S => True) (fun u t => va_P g.1 vwCl (f u) t.heap ∧ va_D A (f u)) A) args s mc ms A) (F0 m 0 ls [])) : zy_Mt g l y cc nL rm as ws sz f mc ms := by
  refine Met.ofW (cc := cc) (maxL := nL) (ret := none) hpl rfl ?_
  intro p e s m args below meth c s₁ B hml hv
  obtain ⟨rfl, hsz, hP, hK, hD0, hN⟩ := hv
  have hts := atoms_spec (ws := Cond.code y cc nL none :: zq_W) B.pre
  have hown : s.vm.findClass y.cls = some m.cls := findClass_of_methodNamed B.named
  have hnm := (name_of_methodNamed B.named B.method).1
  subst hsz
  have hD := hD0.self (sz := s.heap.size)
  have hl := lv_entry as (n := nL) hlen
  rw [lg_entry_eq]
  generalize (lg_sl as ++ List.replicate (nL - (lg_sl as).length) Slot.unset).toArray = ls at hl ⊢
  exact K B.exec B.bytes B.returns hml hown (fun w hw => hts w (List.mem_cons_of_mem _ hw)) hnm hK hN B.notSynchronized (va_A ws s.heap.size) (fun q h => Or.inr h) hP hD ls hl va_S.rf
/-- the classes of arrays, out of the tables -/
theorem zy_arr {ty : FieldType} {args : Array Value} {s : State} (h : (Cond.arrayClass ty).before args s = true) : ∃ cA : ClassId, ArrOfT s cA ty ∧ s.vm.findClass ("[" ++ ty.toString) = some cA := by
  obtain ⟨c, k, comp, h1, h2, h3⟩ := Cond.arrayClass_spec h
  exact ⟨c, fun n z => ⟨fun q hq => (by cases hq), k, h2, comp, h3⟩, h1⟩
theorem zy_arrq {C : String} {s : State} (h : va_AO C s) : ∃ cA : ClassId, ArrOfT s cA (.object C) ∧ va_RA s cA (.object C) := by
  obtain ⟨comp, c, k, h1, h2, h3, h4, h5⟩ := Cond.arrayOver_spec h
  exact ⟨c, fun n z => ⟨fun q hq => (by cases hq), k, h3, comp, h4⟩, k, comp, h3, h4, h1, h5⟩
section ZY
variable {p : Program} {l : Launch} {e : Env} {R : Room} {s : State} {m : MethodId} {args : Array Value} {below : List Frame} {meth : Method} {c : Code} {H : Heap} {locs : List Loc} {cells slots : Nat} {Q : State → Prop}
variable {cc : ByteArray} {pc : Nat} {ls : Array Slot} {rest : List Value} {g : zq_G} {A : Nat → Prop} {ws : va_W}
theorem zy_ret {S : Type} {f : S → va_W} {mc ms : Nat} (u : S) (hx : p.tables.exec = Jvm.exec) (hb : c.code = cc) (hr : meth.sig.returnType = none) (hlocks : meth.locks = false) (hP : va_P g.1 vwCl (f u) H) (hD : va_D A (f u)) (hS : va_S A s.heap H locs) (hdg : decode cc pc = .ok (.return_, 1)) : W p l e R s m args below meth c H locs mc ms (MQ below (va_Qv (fun _ : S => True) (fun u t => va_P g.1 vwCl (f u) t.heap ∧ va_D A (f u)) A) args s mc ms A) (F0 m pc ls []) :=
  W.vret hx hb hr (fun t ht _ => ⟨⟨u, rfl, trivial, by rw [ht]; exact hP, hD⟩, hS.F ht⟩) hS.2.2 hdg hlocks
theorem zy_newi (hx : p.tables.exec = Jvm.exec) (hb : c.code = cc) (harr : (Cond.arrayClass .int).before args s = true) (hK : va_K g.1 vwCl (zq_tys g) s) (hP : va_P g.1 vwCl ws H) (hD : va_D A ws) (hS : va_S A s.heap H locs) (hA : ∀ q, s.heap.size ≤ q → A q) {n : Int32} {N : Nat} (hn : ¬ n < 0) (hN : n.toNatClampNeg = N) (hbytes : N * componentBytes .int ≤ 536870912) (hcells : cells + 1 ≤ R.cells) (hslots : slots + N ≤ R.slots) (hdg : decode cc pc = .ok (.newarray .int, 2))
    (kk : ∀ (q : Nat) (H1 : Heap), va_P g.1 vwCl (ws ++ [(q, zy_i g N)]) H1 → va_D A (ws ++ [(q, zy_i g N)]) → va_S A s.heap H1 locs → W p l e R s m args below meth c H1 locs (cells + 1) (slots + N) Q (F0 m (pc + 2) ls (.ref q :: rest))) : W p l e R s m args below meth c H locs cells slots Q (F0 m pc ls (.int n :: rest)) := by
  refine va_newa (atype := .int) (ty := .int) (a0 := (N, .inl (fun _ => 0))) hx hb harr rfl hK hP hD hS hA (fun cA => rfl) hn hN hbytes hcells hslots hdg (fun q cA H1 hK1 hP1 hD1 hS1 => ?_)
  have e1 := (hK1.2 4 _ rfl).2
  have e2 := (hK.2 0 _ rfl).2
  have e3 : cA = zq_cA g 0 := Option.some.inj (e1.symm.trans e2)
  subst e3
  exact kk q H1 hP1 hD1 hS1
theorem zy_newl (hx : p.tables.exec = Jvm.exec) (hb : c.code = cc) (harr : (Cond.arrayClass .long).before args s = true) (hK : va_K g.1 vwCl (zq_tys g) s) (hP : va_P g.1 vwCl ws H) (hD : va_D A ws) (hS : va_S A s.heap H locs) (hA : ∀ q, s.heap.size ≤ q → A q) {n : Int32} {N : Nat} (hn : ¬ n < 0) (hN : n.toNatClampNeg = N) (hbytes : N * componentBytes .long ≤ 536870912) (hcells : cells + 1 ≤ R.cells) (hslots : slots + N ≤ R.slots) (hdg : decode cc pc = .ok (.newarray .long, 2))
    (kk : ∀ (q : Nat) (H1 : Heap), va_P g.1 vwCl (ws ++ [(q, zy_l g N)]) H1 → va_D A (ws ++ [(q, zy_l g N)]) → va_S A s.heap H1 locs → W p l e R s m args below meth c H1 locs (cells + 1) (slots + N) Q (F0 m (pc + 2) ls (.ref q :: rest))) : W p l e R s m args below meth c H locs cells slots Q (F0 m pc ls (.int n :: rest)) := by
  refine va_newa (atype := .long) (ty := .long) (a0 := (N, .inr (.inl (fun _ => 0)))) hx hb harr rfl hK hP hD hS hA (fun cA => rfl) hn hN hbytes hcells hslots hdg (fun q cA H1 hK1 hP1 hD1 hS1 => ?_)
  have e1 := (hK1.2 4 _ rfl).2
  have e2 := (hK.2 1 _ rfl).2
  have e3 : cA = zq_cA g 1 := Option.some.inj (e1.symm.trans e2)
  subst e3
  exact kk q H1 hP1 hD1 hS1
theorem zy_newz (hx : p.tables.exec = Jvm.exec) (hb : c.code = cc) (harr : (Cond.arrayClass .boolean).before args s = true) (hK : va_K g.1 vwCl (zq_tys g) s) (hP : va_P g.1 vwCl ws H) (hD : va_D A ws) (hS : va_S A s.heap H locs) (hA : ∀ q, s.heap.size ≤ q → A q) {n : Int32} {N : Nat} (hn : ¬ n < 0) (hN : n.toNatClampNeg = N) (hbytes : N * componentBytes .boolean ≤ 536870912) (hcells : cells + 1 ≤ R.cells) (hslots : slots + N ≤ R.slots) (hdg : decode cc pc = .ok (.newarray .boolean, 2))
    (kk : ∀ (q : Nat) (H1 : Heap), va_P g.1 vwCl (ws ++ [(q, zy_z g N)]) H1 → va_D A (ws ++ [(q, zy_z g N)]) → va_S A s.heap H1 locs → W p l e R s m args below meth c H1 locs (cells + 1) (slots + N) Q (F0 m (pc + 2) ls (.ref q :: rest))) : W p l e R s m args below meth c H locs cells slots Q (F0 m pc ls (.int n :: rest)) := by
  refine va_newa (atype := .boolean) (ty := .boolean) (a0 := (N, .inl (fun _ => 0))) hx hb harr rfl hK hP hD hS hA (fun cA => rfl) hn hN hbytes hcells hslots hdg (fun q cA H1 hK1 hP1 hD1 hS1 => ?_)
  have e1 := (hK1.2 4 _ rfl).2
  have e2 := (hK.2 2 _ rfl).2
  have e3 : cA = zq_cA g 2 := Option.some.inj (e1.symm.trans e2)
  subst e3
  exact kk q H1 hP1 hD1 hS1
theorem zy_newq {own : String} {index : Nat} (hx : p.tables.exec = Jvm.exec) (hb : c.code = cc) (hown : s.vm.findClass own = some m.cls) (hclink : (Cond.classLink own index "DollsAhead$Sheet").before args s = true) (hover : va_AO "DollsAhead$Sheet" s) (hK : va_K g.1 vwCl (zq_tys g) s) (hP : va_P g.1 vwCl ws H) (hD : va_D A ws) (hS : va_S A s.heap H locs) (hA : ∀ q, s.heap.size ≤ q → A q) {n : Int32} {N : Nat} (hn : ¬ n < 0) (hN : n.toNatClampNeg = N) (hbytes : N * 4 ≤ 536870912) (hcells : cells + 1 ≤ R.cells) (hslots : slots + N ≤ R.slots) (hdg : decode cc pc = .ok (.anewarray index, 3))
    (kk : ∀ (q : Nat) (H1 : Heap), va_P g.1 vwCl (ws ++ [(q, zy_q g N (fun _ => none))]) H1 → va_D A (ws ++ [(q, zy_q g N (fun _ => none))]) → va_S A s.heap H1 locs → W p l e R s m args below meth c H1 locs (cells + 1) (slots + N) Q (F0 m (pc + 3) ls (.ref q :: rest))) : W p l e R s m args below meth c H locs cells slots Q (F0 m pc ls (.int n :: rest)) := by
  refine va_newq hx hb hown hclink hover hK hP hD hS hA hn hN hbytes hcells hslots hdg (fun q cA H1 hK1 hP1 hD1 hS1 => ?_)
  obtain ⟨k1, c1, a1, a2, a3, e1⟩ := (hK1.2 4 _ rfl).2
  obtain ⟨k2, c2, b1, b2, b3, e2⟩ := (hK.2 3 _ rfl).2
  have e3 : cA = zq_cA g 3 := Option.some.inj (e1.symm.trans e2)
  subst e3
  exact kk q H1 hP1 hD1 hS1
theorem zy_astq {a v ci n k : Nat} {vs : List Value} {f : Nat → Option Nat} {i : Int32} (hx : p.tables.exec = Jvm.exec) (hb : c.code = cc) (hK : va_K g.1 vwCl (zq_tys g) s) (hP : va_P g.1 vwCl ws H) (hD : va_D A ws) (hS : va_S A s.heap H locs) (q0 qk : Nat) (ha : ws[q0]? = some (a, zy_q g n f)) (hv : ws[qk]? = some (v, .inr (ci, vs))) (hc : vwCl[ci]? = some (RX4, TX4, 3)) (hin : vp_in i n) (hk : i.toNatClampNeg = k) (hdg : decode cc pc = .ok (.aastore, 1))
    (kk : ∀ (H1 : Heap) (locs1 : List Loc), va_P g.1 vwCl (ws.set q0 (a, zy_q g n (va_up f k (some v)))) H1 → va_D A (ws.set q0 (a, zy_q g n (va_up f k (some v)))) → va_S A s.heap H1 locs1 → W p l e R s m args below meth c H1 locs1 cells slots Q (F0 m (pc + 1) ls rest)) : W p l e R s m args below meth c H locs cells slots Q (F0 m pc ls (.ref v :: .int i :: .ref a :: rest)) := by
  subst hk
  exact va_astq (D := g.1) hx hb hK hP hD hS q0 3 qk ci ha rfl hv hc hin hdg kk
theorem zy_refs {a n : Nat} {f f' : Nat → Option Nat} (k : Nat) (hP : va_P g.1 vwCl ws H) (ha : ws[k]? = some (a, zy_q g n f)) (hf : ∀ j, j < n → f j = f' j) : va_P g.1 vwCl (ws.set k (a, zy_q g n f')) H := by
  intro i q hq
  by_cases h : k = i
  · subst h
    rw [List.getElem?_set_self (List.getElem?_eq_some_iff.mp ha).1] at hq
    cases hq
    have h1 := hP k _ ha
    have h2 : arrV (zq_cA g 3) n (fun j => va_rf (f j)) = arrV (zq_cA g 3) n (fun j => va_rf (f' j)) := by
      unfold arrV
      congr 2
      funext j
      show va_rf (f j.val) = va_rf (f' j.val)
      rw [hf j.val j.isLt]
    have h3 : H[a]? = some (arrV (zq_cA g 3) n (fun j => va_rf (f j))) := h1
    have h4 : H[a]? = some (arrV (zq_cA g 3) n (fun j => va_rf (f' j))) := by rw [← h2]; exact h3
    exact h4
  · rw [List.getElem?_set_ne h] at hq
    exact hP i q hq
theorem zy_callg {S : Type} {f : S → va_W} {wc wr : va_W} {mc ms : Nat} {st0 : List Value} {a : Array Value} (hr : va_Run p l e R s m args below meth c H locs cells slots mc ms (F0 m pc ls st0) rest (zy_Q g wc H.size f a) (va_A wc H.size)) (hP : va_P g.1 vwCl ws H) (hD : va_D A ws) (hS : va_S A s.heap H locs) (hA : ∀ q, s.heap.size ≤ q → A q) (isC isR : List Nat) (hC : isC.map (fun i => ws[i]?) = wc.map some) (hR : isR.map (fun i => ws[i]?) = wr.map some) (hn : va_nd isR = true) (hdis : ∀ i ∈ isR, i ∉ isC)
    (kk : ∀ (u : S) (H1 : Heap) (locs1 : List Loc), va_P g.1 vwCl (wr ++ f u) H1 → va_D A (wr ++ f u) → va_S A s.heap H1 locs1 → W p l e R s m args below meth c H1 locs1 (cells + mc) (slots + ms) Q (F0 m (pc + 3) ls rest)) : W p l e R s m args below meth c H locs cells slots Q (F0 m pc ls st0) := by
  have hF := va_free hD hS hA isC hC
  refine va_callv hr hS (fun q _ h => hF q h) hF (fun u t H1 locs1 ht _ _ hB _ hk1 hS1 => ?_)
  obtain ⟨hP1, hD1⟩ := hB
  rw [ht] at hP1
  obtain ⟨hP2, hD2⟩ := va_join hP hD isC isR hC hR hn hdis hk1 hF hP1 hD1
  exact kk u H1 locs1 hP2 hD2 hS1
theorem zy_pre {wc : va_W} {av : List Value} (hK : va_K g.1 vwCl (zq_tys g) s) (hN : zy_Nk s) (hP : va_P g.1 vwCl ws H) (hD : va_D A ws) (isC : List Nat) (hC : isC.map (fun i => ws[i]?) = wc.map some) (hn : va_nd isC = true) (hf : isC.filterMap (fun i => ws[i]?) = wc) (U : State) (hU : U.heap = H) (hW : s.WarmedH U.vm) : va_Pc av (zy_In g wc H.size) av.toArray U :=
  ⟨rfl, by rw [hU], by rw [hU]; exact hP.sub isC hf, va_K.moved hW.alike hK, (hD.sub isC hn hC).weaken (fun _ _ _ _ => trivial), hN.warm hW⟩
theorem zy_callI {S : Type} {f : S → va_W} {wc wr : va_W} {mc ms maxL nL n b index : Nat} {own : String} {y : MethodName} {bytes : ByteArray} {rm : Room} {As : List Value} (hx : p.tables.exec = Jvm.exec) (hb : c.code = cc) (hml : c.maxLocals = nL) (hown : s.vm.findClass own = some m.cls) (hts : ∀ w ∈ zq_W, w.before args s = true) (hK : va_K g.1 vwCl (zq_tys g) s) (hN : zy_Nk s) (hP : va_P g.1 vwCl ws H) (hD : va_D A ws) (hS : va_S A s.heap H locs) (hA : ∀ q, s.heap.size ≤ q → A q) (hM : zy_Mt g l y bytes maxL rm (.ref b :: As) wc H.size f mc ms) (isC isR : List Nat) (hC : isC.map (fun i => ws[i]?) = wc.map some) (hCf : isC.filterMap (fun i => ws[i]?) = wc) (hR : isR.map (fun i => ws[i]?) = wr.map some) (hn : (va_nd isC && va_nd isR) = true) (hdis : ∀ i ∈ isR, i ∉ isC) (w1 : Cond.initialized y.cls ∈ zq_W) (w2 : Cond.methodLink own index y ∈ zq_W) (w3 : Cond.instanceMethod y ∈ zq_W) (w4 : Cond.code y bytes maxL none ∈ zq_W) (hy : y.name = "<init>")
    (hd : y.cls ≠ "java/lang/invoke/MethodHandle" ∧ y.cls ≠ "java/lang/invoke/VarHandle" ∧ (parseMethodDescriptor y.desc).map (fun d => d.parameters.length) = some n) (hz : rm.cells = mc ∧ rm.slots = ms) (hRm : rm.frames + 1 ≤ R.frames ∧ 8 + (maxL + 11) + rm.locals ≤ R.locals) (hAs : As.length = n) (hsize : ls.size = nL) (hcat : 2 * (F0 m pc ls rest).monitorRoom + (rest.map fun v => v.category).sum ≤ 8) (hdg : decode cc pc = .ok (.invokespecial index, 3)) (hf : cells + mc ≤ R.cells ∧ slots + ms ≤ R.slots)
    (kk : ∀ (u : S) (H1 : Heap) (locs1 : List Loc), va_P g.1 vwCl (wr ++ f u) H1 → va_D A (wr ++ f u) → va_S A s.heap H1 locs1 → W p l e R s m args below meth c H1 locs1 (cells + mc) (slots + ms) Q (F0 m (pc + 3) ls rest)) : W p l e R s m args below meth c H locs cells slots Q (F0 m pc ls (As.reverse ++ .ref b :: rest)) := by
  rw [Bool.and_eq_true] at hn
  have hG : GoodIn zq_W (Cond.code y bytes maxL none :: zq_W) := zq_good (List.forall_mem_cons.mpr ⟨w4, fun _ h => h⟩)
  refine zy_callg (va_runI (As := As) (rest := rest) ⟨hx, hb, hml, hown, hts⟩ hM (cwI n hts hG rfl hz.1 hz.2 (hts _ w1) (hts _ w2) (hts _ w3) hy hd hRm) ⟨zy_blind, fun U hU hW => zy_pre hK hN hP hD isC hC hn.1 hCf U hU hW⟩ rfl hAs hsize rfl hcat hdg hf) hP hD hS hA isC isR hC hR hn.2 hdis kk
theorem zy_callN {S : Type} {f : S → va_W} {wc wr : va_W} {mc ms maxL nL n b index : Nat} {own : String} {y : MethodName} {bytes : ByteArray} {rm : Room} {As : List Value} (hx : p.tables.exec = Jvm.exec) (hb : c.code = cc) (hml : c.maxLocals = nL) (hown : s.vm.findClass own = some m.cls) (hts : ∀ w ∈ zq_W, w.before args s = true) (hK : va_K g.1 vwCl (zq_tys g) s) (hN : zy_Nk s) (hP : va_P g.1 vwCl ws H) (hD : va_D A ws) (hS : va_S A s.heap H locs) (hA : ∀ q, s.heap.size ≤ q → A q) (hM : zy_Mt g l y bytes maxL rm (.ref b :: As) wc H.size f mc ms) (isC isR : List Nat) (hC : isC.map (fun i => ws[i]?) = wc.map some) (hCf : isC.filterMap (fun i => ws[i]?) = wc) (hR : isR.map (fun i => ws[i]?) = wr.map some) (hn : (va_nd isC && va_nd isR) = true) (hdis : ∀ i ∈ isR, i ∉ isC) (w1 : Cond.initialized y.cls ∈ zq_W) (w2 : va_Nw (.methodLinkNest own index y "DollsAhead") s) (w3 : Cond.instanceMethod y ∈ zq_W) (w4 : Cond.code y bytes maxL none ∈ zq_W) (hy : y.name = "<init>")
    (hd : y.cls ≠ "java/lang/invoke/MethodHandle" ∧ y.cls ≠ "java/lang/invoke/VarHandle" ∧ (parseMethodDescriptor y.desc).map (fun d => d.parameters.length) = some n) (hz : rm.cells = mc ∧ rm.slots = ms) (hRm : rm.frames + 1 ≤ R.frames ∧ 8 + (maxL + 11) + rm.locals ≤ R.locals) (hAs : As.length = n) (hsize : ls.size = nL) (hcat : 2 * (F0 m pc ls rest).monitorRoom + (rest.map fun v => v.category).sum ≤ 8) (hdg : decode cc pc = .ok (.invokespecial index, 3)) (hf : cells + mc ≤ R.cells ∧ slots + ms ≤ R.slots)
    (kk : ∀ (u : S) (H1 : Heap) (locs1 : List Loc), va_P g.1 vwCl (wr ++ f u) H1 → va_D A (wr ++ f u) → va_S A s.heap H1 locs1 → W p l e R s m args below meth c H1 locs1 (cells + mc) (slots + ms) Q (F0 m (pc + 3) ls rest)) : W p l e R s m args below meth c H locs cells slots Q (F0 m pc ls (As.reverse ++ .ref b :: rest)) := by
  rw [Bool.and_eq_true] at hn
  have hG : GoodIn zq_W (Cond.code y bytes maxL none :: zq_W) := zq_good (List.forall_mem_cons.mpr ⟨w4, fun _ h => h⟩)
  refine zy_callg (va_runIN (As := As) (rest := rest) ⟨hx, hb, hml, hown, hts⟩ hM ⟨va_cnB n hts hG rfl hz.1 hz.2 w2 (hts _ w1) hd hRm, hy, hts _ w3⟩ ⟨zy_blind, fun U hU hW => zy_pre hK hN hP hD isC hC hn.1 hCf U hU hW⟩ rfl hAs hsize rfl hcat hdg hf) hP hD hS hA isC isR hC hR hn.2 hdis kk
theorem zy_callS {S : Type} {f : S → va_W} {wc wr : va_W} {mc ms maxL nL n index : Nat} {own : String} {y : MethodName} {bytes : ByteArray} {rm : Room} {As : List Value} (hx : p.tables.exec = Jvm.exec) (hb : c.code = cc) (hml : c.maxLocals = nL) (hown : s.vm.findClass own = some m.cls) (hts : ∀ w ∈ zq_W, w.before args s = true) (hK : va_K g.1 vwCl (zq_tys g) s) (hN : zy_Nk s) (hP : va_P g.1 vwCl ws H) (hD : va_D A ws) (hS : va_S A s.heap H locs) (hA : ∀ q, s.heap.size ≤ q → A q) (hM : zy_Mt g l y bytes maxL rm (As) wc H.size f mc ms) (isC isR : List Nat) (hC : isC.map (fun i => ws[i]?) = wc.map some) (hCf : isC.filterMap (fun i => ws[i]?) = wc) (hR : isR.map (fun i => ws[i]?) = wr.map some) (hn : (va_nd isC && va_nd isR) = true) (hdis : ∀ i ∈ isR, i ∉ isC) (w1 : Cond.initialized y.cls ∈ zq_W) (w2 : Cond.methodLink own index y ∈ zq_W) (w3 : Cond.static y ∈ zq_W) (w4 : Cond.code y bytes maxL none ∈ zq_W)
    (hd : y.cls ≠ "java/lang/invoke/MethodHandle" ∧ y.cls ≠ "java/lang/invoke/VarHandle" ∧ (parseMethodDescriptor y.desc).map (fun d => d.parameters.length) = some n) (hz : rm.cells = mc ∧ rm.slots = ms) (hRm : rm.frames + 1 ≤ R.frames ∧ 8 + (maxL + 11) + rm.locals ≤ R.locals) (hAs : As.length = n) (hsize : ls.size = nL) (hcat : 2 * (F0 m pc ls rest).monitorRoom + (rest.map fun v => v.category).sum ≤ 8) (hdg : decode cc pc = .ok (.invokestatic index, 3)) (hf : cells + mc ≤ R.cells ∧ slots + ms ≤ R.slots)
    (kk : ∀ (u : S) (H1 : Heap) (locs1 : List Loc), va_P g.1 vwCl (wr ++ f u) H1 → va_D A (wr ++ f u) → va_S A s.heap H1 locs1 → W p l e R s m args below meth c H1 locs1 (cells + mc) (slots + ms) Q (F0 m (pc + 3) ls rest)) : W p l e R s m args below meth c H locs cells slots Q (F0 m pc ls (As.reverse ++ rest)) := by
  rw [Bool.and_eq_true] at hn
  have hG : GoodIn zq_W (Cond.code y bytes maxL none :: zq_W) := zq_good (List.forall_mem_cons.mpr ⟨w4, fun _ h => h⟩)
  refine zy_callg (va_runS (As := As) (rest := rest) ⟨hx, hb, hml, hown, hts⟩ hM ⟨callB_of n hts hG rfl hz.1 hz.2 (hts _ w1) (hts _ w2) hd hRm, hts _ w3⟩ ⟨zy_blind, fun U hU hW => zy_pre hK hN hP hD isC hC hn.1 hCf U hU hW⟩ rfl hAs hsize rfl hcat hdg hf) hP hD hS hA isC isR hC hR hn.2 hdis kk
end ZY
theorem zy_f0 : ∀ j, j < 9 → defaultValue (tyX0 j) = vp_V [.null, .int 0, .int 0, .int 0, .int 0, .int 0, .null, .null, .null] j := by
  intro j hj
  have h : ∀ j : Fin 9, defaultValue (tyX0 j.val) = vp_V [.null, .int 0, .int 0, .int 0, .int 0, .int 0, .null, .null, .null] j.val := by decide +kernel
  exact h ⟨j, hj⟩
theorem zy_f1 : ∀ j, j < 4 → defaultValue (tyX1 j) = vp_V [.null, .null, .null, .int 0] j := by
  intro j hj
  have h : ∀ j : Fin 4, defaultValue (tyX1 j.val) = vp_V [.null, .null, .null, .int 0] j.val := by decide +kernel
  exact h ⟨j, hj⟩
theorem zy_f2 : ∀ j, j < 1 → defaultValue (tyX2 j) = vp_V [.int 0] j := by
  intro j hj
  have h : ∀ j : Fin 1, defaultValue (tyX2 j.val) = vp_V [.int 0] j.val := by decide +kernel
  exact h ⟨j, hj⟩
theorem zy_f3 : ∀ j, j < 9 → defaultValue (tyX3 j) = vp_V [.null, .int 0, .int 0, .int 0, .int 0, .int 0, .null, .null, .null] j := by
  intro j hj
  have h : ∀ j : Fin 9, defaultValue (tyX3 j.val) = vp_V [.null, .int 0, .int 0, .int 0, .int 0, .int 0, .null, .null, .null] j.val := by decide +kernel
  exact h ⟨j, hj⟩
theorem zy_f4 : ∀ j, j < 3 → defaultValue (tyX4 j) = vp_V [.null, .int 0, .int 0] j := by
  intro j hj
  have h : ∀ j : Fin 3, defaultValue (tyX4 j.val) = vp_V [.null, .int 0, .int 0] j.val := by decide +kernel
  exact h ⟨j, hj⟩
theorem zy_f5 : ∀ j, j < 4 → defaultValue (tyX5 j) = vp_V [.null, .null, .null, .int 0] j := by
  intro j hj
  have h : ∀ j : Fin 4, defaultValue (tyX5 j.val) = vp_V [.null, .null, .null, .int 0] j.val := by decide +kernel
  exact h ⟨j, hj⟩
theorem zy_f7 : ∀ j, j < 14 → defaultValue (tyX7 j) = vp_V [.null, .null, .null, .null, .null, .null, .null, .null, .null, .int 0, .int 0, .int 0, .int 0, .int 0] j := by
  intro j hj
  have h : ∀ j : Fin 14, defaultValue (tyX7 j.val) = vp_V [.null, .null, .null, .null, .null, .null, .null, .null, .null, .int 0, .int 0, .int 0, .int 0, .int 0] j.val := by decide +kernel
  exact h ⟨j, hj⟩
theorem zy_f8 : ∀ j, j < 17 → defaultValue (tyX8 j) = vp_V [.null, .null, .null, .null, .null, .null, .null, .null, .null, .null, .null, .null, .int 0, .int 0, .int 0, .int 0, .int 0] j := by
  intro j hj
  have h : ∀ j : Fin 17, defaultValue (tyX8 j.val) = vp_V [.null, .null, .null, .null, .null, .null, .null, .null, .null, .null, .null, .null, .int 0, .int 0, .int 0, .int 0, .int 0] j.val := by decide +kernel
  exact h ⟨j, hj⟩
theorem zy_f9 : ∀ j, j < 37 → defaultValue (tyX9 j) = vp_V [.null, .null, .int 0, .null, .null, .int 0, .null, .null, .null, .int 0, .int 0, .null, .null, .null, .int 0, .int 0, .null, .null, .null, .int 0, .int 0, .int 0, .null, .null, .null, .null, .int 0, .null, .null, .null, .null, .null, .null, .null, .null, .null, .int 0] j := by
  intro j hj
  have h : ∀ j : Fin 37, defaultValue (tyX9 j.val) = vp_V [.null, .null, .int 0, .null, .null, .int 0, .null, .null, .null, .int 0, .int 0, .null, .null, .null, .int 0, .int 0, .null, .null, .null, .int 0, .int 0, .int 0, .null, .null, .null, .null, .int 0, .null, .null, .null, .null, .null, .null, .null, .null, .null, .int 0] j.val := by decide +kernel
  exact h ⟨j, hj⟩
theorem zu_81 : Cond.initialized RX6 ∈ zq_W := zq_inW (zq_t1 (List.mem_of_getElem? (i := 2) rfl)) rfl
theorem zu_82 : Cond.initialized RX0 ∈ zq_W := zq_inW (zq_t1 (List.mem_of_getElem? (i := 3) rfl)) rfl
theorem zu_83 : Cond.initialized "java/lang/Math" ∈ zq_W := zq_inW (zq_t1 (List.mem_of_getElem? (i := 4) rfl)) rfl
theorem zu_84 : Cond.initialized RX3 ∈ zq_W := zq_inW (zq_t1 (List.mem_of_getElem? (i := 5) rfl)) rfl
theorem zu_85 : Cond.initialized RX1 ∈ zq_W := zq_inW (zq_t1 (List.mem_of_getElem? (i := 6) rfl)) rfl
theorem zu_86 : Cond.initialized RX2 ∈ zq_W := zq_inW (zq_t1 (List.mem_of_getElem? (i := 7) rfl)) rfl
theorem zu_87 : Cond.initialized RX5 ∈ zq_W := zq_inW (zq_t1 (List.mem_of_getElem? (i := 8) rfl)) rfl
theorem zu_88 : Cond.initialized RX4 ∈ zq_W := zq_inW (zq_t1 (List.mem_of_getElem? (i := 9) rfl)) rfl
theorem zu_89 : Cond.initialized RX7 ∈ zq_W := zq_inW (zq_t1 (List.mem_of_getElem? (i := 10) rfl)) rfl
theorem zu_90 : Cond.initialized RJ7 ∈ zq_W := zq_inW (zq_t1 (List.mem_of_getElem? (i := 11) rfl)) rfl
theorem zu_99 : Cond.methodLink RX8 1 objectInit ∈ zq_W := zq_inW (zq_t1 (List.mem_of_getElem? (i := 20) rfl)) rfl
theorem zu_100 : Cond.instanceMethod objectInit ∈ zq_W := zq_inW (zq_t1 (List.mem_of_getElem? (i := 21) rfl)) rfl
theorem zu_101 : Cond.code objectInit ⟨#[0xb1]⟩ 1 none ∈ zq_W := zq_inW (zq_t1 (List.mem_of_getElem? (i := 22) rfl)) rfl
theorem zu_102 : Cond.classLink RX8 7 RX0 ∈ zq_W := zq_inW (zq_t1 (List.mem_of_getElem? (i := 23) rfl)) rfl
theorem zu_103 : Cond.instantiable RX0 9 ∈ zq_W := zq_inW (zq_t1 (List.mem_of_getElem? (i := 24) rfl)) rfl
theorem zu_104 : Cond.methodLink RX8 9 yX0_init ∈ zq_W := zq_inW (zq_t1 (List.mem_of_getElem? (i := 25) rfl)) rfl
theorem zu_105 : Cond.instanceMethod yX0_init ∈ zq_W := zq_inW (zq_t1 (List.mem_of_getElem? (i := 26) rfl)) rfl
theorem zu_106 : Cond.code yX0_init prog_2_method_1_code 1 none ∈ zq_W := zq_inW (zq_t1 (List.mem_of_getElem? (i := 27) rfl)) rfl
theorem zu_107 : Cond.methodLink RX0 5 yX6_init ∈ zq_W := zq_inW (zq_t1 (List.mem_of_getElem? (i := 28) rfl)) rfl
theorem zu_108 : Cond.instanceMethod yX6_init ∈ zq_W := zq_inW (zq_t1 (List.mem_of_getElem? (i := 29) rfl)) rfl
theorem zu_109 : Cond.code yX6_init prog_8_method_1_code 3 none ∈ zq_W := zq_inW (zq_t1 (List.mem_of_getElem? (i := 30) rfl)) rfl
theorem zu_110 : Cond.methodLink RX6 3 objectInit ∈ zq_W := zq_inW (zq_t1 (List.mem_of_getElem? (i := 31) rfl)) rfl
theorem zu_111 : Cond.methodLink RX6 15 Lib.Math.min.name ∈ zq_W := zq_inW (zq_t1 (List.mem_of_getElem? (i := 32) rfl)) rfl
theorem zu_112 : Cond.static Lib.Math.min.name ∈ zq_W := zq_inW (zq_t1 (List.mem_of_getElem? (i := 33) rfl)) rfl
theorem zu_113 : Cond.code Lib.Math.min.name Lib.Math.min.code 2 (some .int) ∈ zq_W := zq_inW (zq_t1 (List.mem_of_getElem? (i := 34) rfl)) rfl
theorem zu_114 : Cond.methodLink RX6 25 Lib.Math.max.name ∈ zq_W := zq_inW (zq_t1 (List.mem_of_getElem? (i := 35) rfl)) rfl
theorem zu_115 : Cond.static Lib.Math.max.name ∈ zq_W := zq_inW (zq_t1 (List.mem_of_getElem? (i := 36) rfl)) rfl
theorem zu_116 : Cond.code Lib.Math.max.name Lib.Math.max.code 2 (some .int) ∈ zq_W := zq_inW (zq_t1 (List.mem_of_getElem? (i := 37) rfl)) rfl
theorem zu_117 : Cond.fieldLink RX0 11 "DollsAhead$Doors" "ones" "[I" ∈ zq_W := zq_inW (zq_t1 (List.mem_of_getElem? (i := 38) rfl)) rfl
theorem zu_119 : Cond.fieldLink RX0 15 "DollsAhead$Doors" "others" "[I" ∈ zq_W := zq_inW (zq_t1 (List.mem_of_getElem? (i := 40) rfl)) rfl
theorem zu_121 : Cond.fieldLink RX0 18 "DollsAhead$Doors" "beside" "[I" ∈ zq_W := zq_inW (zq_t1 (List.mem_of_getElem? (i := 42) rfl)) rfl
theorem zu_122 : Cond.fieldLink RX6 9 "DollsAhead$Text" "bytes" "[I" ∈ zq_W := zq_inW (zq_t1 (List.mem_of_getElem? (i := 43) rfl)) rfl
theorem zu_127 : Cond.fieldLink RX6 21 "DollsAhead$Text" "limit" "I" ∈ zq_W := zq_inW (zq_t1 (List.mem_of_getElem? (i := 48) rfl)) rfl
theorem zu_128 : Cond.fieldLink RX6 28 "DollsAhead$Text" "part" "I" ∈ zq_W := zq_inW (zq_t1 (List.mem_of_getElem? (i := 49) rfl)) rfl
theorem zu_129 : Cond.fieldLink RX6 31 "DollsAhead$Text" "size" "I" ∈ zq_W := zq_inW (zq_t1 (List.mem_of_getElem? (i := 50) rfl)) rfl
theorem zu_135 : Cond.fieldLink RX6 34 "DollsAhead$Text" "faultPlace" "I" ∈ zq_W := zq_inW (zq_t1 (List.mem_of_getElem? (i := 56) rfl)) rfl
theorem zu_137 : Cond.fieldLink RX6 37 "DollsAhead$Text" "many" "I" ∈ zq_W := zq_inW (zq_t1 (List.mem_of_getElem? (i := 58) rfl)) rfl
theorem zu_165 : Cond.arrayClass .int ∈ zq_W := zq_inW (zq_t1 (List.mem_of_getElem? (i := 86) rfl)) rfl
theorem zu_166 : Cond.classLink RX8 16 RX3 ∈ zq_W := zq_inW (zq_t1 (List.mem_of_getElem? (i := 87) rfl)) rfl
theorem zu_167 : Cond.instantiable RX3 9 ∈ zq_W := zq_inW (zq_t1 (List.mem_of_getElem? (i := 88) rfl)) rfl
theorem zu_168 : Cond.methodLink RX8 18 yX3_init ∈ zq_W := zq_inW (zq_t1 (List.mem_of_getElem? (i := 89) rfl)) rfl
theorem zu_169 : Cond.instanceMethod yX3_init ∈ zq_W := zq_inW (zq_t1 (List.mem_of_getElem? (i := 90) rfl)) rfl
theorem zu_170 : Cond.code yX3_init prog_5_method_1_code 1 none ∈ zq_W := zq_inW (zq_t1 (List.mem_of_getElem? (i := 91) rfl)) rfl
theorem zu_171 : Cond.methodLink RX3 5 yX6_init ∈ zq_W := zq_inW (zq_t1 (List.mem_of_getElem? (i := 92) rfl)) rfl
theorem zu_172 : Cond.fieldLink RX3 11 "DollsAhead$People" "sorts" "[I" ∈ zq_W := zq_inW (zq_t1 (List.mem_of_getElem? (i := 93) rfl)) rfl
theorem zu_175 : Cond.fieldLink RX3 15 "DollsAhead$People" "starts" "[I" ∈ zq_W := zq_inW (zq_t1 (List.mem_of_getElem? (i := 96) rfl)) rfl
theorem zu_178 : Cond.fieldLink RX3 18 "DollsAhead$People" "beds" "[I" ∈ zq_W := zq_inW (zq_t1 (List.mem_of_getElem? (i := 99) rfl)) rfl
theorem zu_194 : Cond.classLink RX8 23 RX1 ∈ zq_W := zq_inW (zq_t1 (List.mem_of_getElem? (i := 115) rfl)) rfl
theorem zu_195 : Cond.instantiable RX1 4 ∈ zq_W := zq_inW (zq_t1 (List.mem_of_getElem? (i := 116) rfl)) rfl
theorem zu_197 : Cond.instanceMethod yX1_init ∈ zq_W := zq_inW (zq_t1 (List.mem_of_getElem? (i := 118) rfl)) rfl
theorem zu_198 : Cond.code yX1_init prog_3_method_1_code 1 none ∈ zq_W := zq_inW (zq_t1 (List.mem_of_getElem? (i := 119) rfl)) rfl
theorem zu_199 : Cond.methodLink RX1 3 objectInit ∈ zq_W := zq_inW (zq_t1 (List.mem_of_getElem? (i := 120) rfl)) rfl
theorem zu_200 : Cond.fieldLink RX1 11 "DollsAhead$Events" "kinds" "[I" ∈ zq_W := zq_inW (zq_t1 (List.mem_of_getElem? (i := 121) rfl)) rfl
theorem zu_202 : Cond.fieldLink RX1 15 "DollsAhead$Events" "hours" "[I" ∈ zq_W := zq_inW (zq_t1 (List.mem_of_getElem? (i := 123) rfl)) rfl
theorem zu_204 : Cond.fieldLink RX1 18 "DollsAhead$Events" "numbers" "[I" ∈ zq_W := zq_inW (zq_t1 (List.mem_of_getElem? (i := 125) rfl)) rfl
theorem zu_218 : Cond.classLink RX8 33 RX2 ∈ zq_W := zq_inW (zq_t1 (List.mem_of_getElem? (i := 139) rfl)) rfl
theorem zu_219 : Cond.instantiable RX2 1 ∈ zq_W := zq_inW (zq_t1 (List.mem_of_getElem? (i := 140) rfl)) rfl
theorem zu_221 : Cond.instanceMethod yX2_init ∈ zq_W := zq_inW (zq_t1 (List.mem_of_getElem? (i := 142) rfl)) rfl
theorem zu_222 : Cond.code yX2_init prog_4_method_1_code 1 none ∈ zq_W := zq_inW (zq_t1 (List.mem_of_getElem? (i := 143) rfl)) rfl
theorem zu_223 : Cond.methodLink RX2 1 objectInit ∈ zq_W := zq_inW (zq_t1 (List.mem_of_getElem? (i := 144) rfl)) rfl
theorem zu_229 : Cond.classLink RX8 40 RX5 ∈ zq_W := zq_inW (zq_t1 (List.mem_of_getElem? (i := 150) rfl)) rfl
theorem zu_230 : Cond.instantiable RX5 4 ∈ zq_W := zq_inW (zq_t1 (List.mem_of_getElem? (i := 151) rfl)) rfl
theorem zu_232 : Cond.instanceMethod yX5_init ∈ zq_W := zq_inW (zq_t1 (List.mem_of_getElem? (i := 153) rfl)) rfl
theorem zu_233 : Cond.code yX5_init prog_7_method_1_code 1 none ∈ zq_W := zq_inW (zq_t1 (List.mem_of_getElem? (i := 154) rfl)) rfl
theorem zu_234 : Cond.methodLink RX5 3 objectInit ∈ zq_W := zq_inW (zq_t1 (List.mem_of_getElem? (i := 155) rfl)) rfl
theorem zu_235 : Cond.fieldLink RX5 9 "DollsAhead$Sights" "hours" "[I" ∈ zq_W := zq_inW (zq_t1 (List.mem_of_getElem? (i := 156) rfl)) rfl
theorem zu_236 : Cond.fieldLink RX5 15 "DollsAhead$Sights" "persons" "[I" ∈ zq_W := zq_inW (zq_t1 (List.mem_of_getElem? (i := 157) rfl)) rfl
theorem zu_237 : Cond.fieldLink RX5 18 "DollsAhead$Sights" "rooms" "[I" ∈ zq_W := zq_inW (zq_t1 (List.mem_of_getElem? (i := 158) rfl)) rfl
theorem zu_249 : Cond.classLink RX8 47 RX4 ∈ zq_W := zq_inW (zq_t1 (List.mem_of_getElem? (i := 170) rfl)) rfl
theorem zu_251 : Cond.instantiable RX4 3 ∈ zq_W := zq_inW (zq_t1 (List.mem_of_getElem? (i := 172) rfl)) rfl
theorem zu_252 : Cond.methodLink RX8 53 yX4_init ∈ zq_W := zq_inW (zq_t1 (List.mem_of_getElem? (i := 173) rfl)) rfl
theorem zu_253 : Cond.instanceMethod yX4_init ∈ zq_W := zq_inW (zq_t1 (List.mem_of_getElem? (i := 174) rfl)) rfl
theorem zu_254 : Cond.code yX4_init prog_6_method_1_code 1 none ∈ zq_W := zq_inW (zq_t1 (List.mem_of_getElem? (i := 175) rfl)) rfl
theorem zu_255 : Cond.methodLink RX4 3 objectInit ∈ zq_W := zq_inW (zq_t1 (List.mem_of_getElem? (i := 176) rfl)) rfl
theorem zu_256 : Cond.fieldLink RX4 9 "DollsAhead$Sheet" "items" "[I" ∈ zq_W := zq_inW (zq_t1 (List.mem_of_getElem? (i := 177) rfl)) rfl
theorem zu_258 : Cond.fieldLink RX4 15 "DollsAhead$Sheet" "form" "I" ∈ zq_W := zq_inW (zq_t1 (List.mem_of_getElem? (i := 179) rfl)) rfl
theorem zu_260 : Cond.fieldLink RX4 19 "DollsAhead$Sheet" "size" "I" ∈ zq_W := zq_inW (zq_t1 (List.mem_of_getElem? (i := 181) rfl)) rfl
theorem zu_269 : Cond.classLink RX8 54 RX7 ∈ zq_W := zq_inW (zq_t1 (List.mem_of_getElem? (i := 190) rfl)) rfl
theorem zu_270 : Cond.instantiable RX7 14 ∈ zq_W := zq_inW (zq_t1 (List.mem_of_getElem? (i := 191) rfl)) rfl
theorem zu_271 : Cond.methodLink RX8 56 yX7_init ∈ zq_W := zq_inW (zq_t1 (List.mem_of_getElem? (i := 192) rfl)) rfl
theorem zu_272 : Cond.instanceMethod yX7_init ∈ zq_W := zq_inW (zq_t1 (List.mem_of_getElem? (i := 193) rfl)) rfl
theorem zu_273 : Cond.code yX7_init prog_9_method_1_code 4 none ∈ zq_W := zq_inW (zq_t1 (List.mem_of_getElem? (i := 194) rfl)) rfl
theorem zu_274 : Cond.methodLink RX7 3 objectInit ∈ zq_W := zq_inW (zq_t1 (List.mem_of_getElem? (i := 195) rfl)) rfl
theorem zu_275 : Cond.methodLink RX7 52 yJ7_fill_53178 ∈ zq_W := zq_inW (zq_t1 (List.mem_of_getElem? (i := 196) rfl)) rfl
theorem zu_276 : Cond.static yJ7_fill_53178 ∈ zq_W := zq_inW (zq_t1 (List.mem_of_getElem? (i := 197) rfl)) rfl
theorem zu_277 : Cond.code yJ7_fill_53178 prog_15_method_103_code 4 none ∈ zq_W := zq_inW (zq_t1 (List.mem_of_getElem? (i := 198) rfl)) rfl
theorem zu_278 : Cond.fieldLink RX7 30 "DollsAhead$Week" "doors" "LDollsAhead$Doors;" ∈ zq_W := zq_inW (zq_t1 (List.mem_of_getElem? (i := 199) rfl)) rfl
theorem zu_279 : Cond.fieldLink RX7 34 "DollsAhead$Week" "people" "LDollsAhead$People;" ∈ zq_W := zq_inW (zq_t1 (List.mem_of_getElem? (i := 200) rfl)) rfl
theorem zu_281 : Cond.fieldLink RX7 9 "DollsAhead$Week" "where" "[I" ∈ zq_W := zq_inW (zq_t1 (List.mem_of_getElem? (i := 202) rfl)) rfl
theorem zu_282 : Cond.fieldLink RX7 15 "DollsAhead$Week" "hams" "[I" ∈ zq_W := zq_inW (zq_t1 (List.mem_of_getElem? (i := 203) rfl)) rfl
theorem zu_283 : Cond.fieldLink RX7 18 "DollsAhead$Week" "shuts" "[I" ∈ zq_W := zq_inW (zq_t1 (List.mem_of_getElem? (i := 204) rfl)) rfl
theorem zu_284 : Cond.fieldLink RX7 21 "DollsAhead$Week" "tables" "[I" ∈ zq_W := zq_inW (zq_t1 (List.mem_of_getElem? (i := 205) rfl)) rfl
theorem zu_285 : Cond.fieldLink RX7 24 "DollsAhead$Week" "steps" "[I" ∈ zq_W := zq_inW (zq_t1 (List.mem_of_getElem? (i := 206) rfl)) rfl
theorem zu_286 : Cond.fieldLink RX7 27 "DollsAhead$Week" "shutInSpan" "[I" ∈ zq_W := zq_inW (zq_t1 (List.mem_of_getElem? (i := 207) rfl)) rfl
theorem zu_287 : Cond.fieldLink RX7 38 "DollsAhead$Week" "events" "LDollsAhead$Events;" ∈ zq_W := zq_inW (zq_t1 (List.mem_of_getElem? (i := 208) rfl)) rfl
theorem zu_290 : Cond.fieldLink RX7 42 "DollsAhead$Week" "who" "I" ∈ zq_W := zq_inW (zq_t1 (List.mem_of_getElem? (i := 211) rfl)) rfl
theorem zu_291 : Cond.fieldLink RX7 46 "DollsAhead$Week" "sortOfWho" "I" ∈ zq_W := zq_inW (zq_t1 (List.mem_of_getElem? (i := 212) rfl)) rfl
theorem zu_292 : Cond.fieldLink RX7 49 "DollsAhead$Week" "bedOfWho" "I" ∈ zq_W := zq_inW (zq_t1 (List.mem_of_getElem? (i := 213) rfl)) rfl
theorem zu_322 : Cond.fieldLink RX8 10 "DollsAhead" "doors" "LDollsAhead$Doors;" ∈ zq_W := zq_inW (zq_t2 (List.mem_of_getElem? (i := 3) rfl)) rfl
theorem zu_323 : Cond.fieldLink RX8 19 "DollsAhead" "people" "LDollsAhead$People;" ∈ zq_W := zq_inW (zq_t2 (List.mem_of_getElem? (i := 4) rfl)) rfl
theorem zu_324 : Cond.fieldLink RX8 26 "DollsAhead" "told" "LDollsAhead$Events;" ∈ zq_W := zq_inW (zq_t2 (List.mem_of_getElem? (i := 5) rfl)) rfl
theorem zu_325 : Cond.fieldLink RX8 30 "DollsAhead" "supposed" "LDollsAhead$Events;" ∈ zq_W := zq_inW (zq_t2 (List.mem_of_getElem? (i := 6) rfl)) rfl
theorem zu_326 : Cond.fieldLink RX8 36 "DollsAhead" "lots" "LDollsAhead$Lots;" ∈ zq_W := zq_inW (zq_t2 (List.mem_of_getElem? (i := 7) rfl)) rfl
theorem zu_327 : Cond.fieldLink RX8 43 "DollsAhead" "sights" "LDollsAhead$Sights;" ∈ zq_W := zq_inW (zq_t2 (List.mem_of_getElem? (i := 8) rfl)) rfl
theorem zu_328 : Cond.fieldLink RX8 49 "DollsAhead" "sheets" "[LDollsAhead$Sheet;" ∈ zq_W := zq_inW (zq_t2 (List.mem_of_getElem? (i := 9) rfl)) rfl
theorem zu_329 : Cond.fieldLink RX8 59 "DollsAhead" "now" "LDollsAhead$Week;" ∈ zq_W := zq_inW (zq_t2 (List.mem_of_getElem? (i := 10) rfl)) rfl
theorem zu_330 : Cond.fieldLink RX8 63 "DollsAhead" "trial" "LDollsAhead$Week;" ∈ zq_W := zq_inW (zq_t2 (List.mem_of_getElem? (i := 11) rfl)) rfl
theorem zu_331 : Cond.fieldLink RX8 66 "DollsAhead" "paths" "[I" ∈ zq_W := zq_inW (zq_t2 (List.mem_of_getElem? (i := 12) rfl)) rfl
theorem zu_332 : Cond.fieldLink RX8 70 "DollsAhead" "crowds" "[I" ∈ zq_W := zq_inW (zq_t2 (List.mem_of_getElem? (i := 13) rfl)) rfl
theorem zu_333 : Cond.fieldLink RX8 73 "DollsAhead" "odds" "[J" ∈ zq_W := zq_inW (zq_t2 (List.mem_of_getElem? (i := 14) rfl)) rfl
theorem zu_334 : Cond.fieldLink RX8 77 "DollsAhead" "lead" "I" ∈ zq_W := zq_inW (zq_t2 (List.mem_of_getElem? (i := 15) rfl)) rfl
theorem zu_335 : Cond.fieldLink RX8 81 "DollsAhead" "finding" "I" ∈ zq_W := zq_inW (zq_t2 (List.mem_of_getElem? (i := 16) rfl)) rfl
theorem zu_336 : Cond.fieldLink RX8 84 "DollsAhead" "nowStands" "Z" ∈ zq_W := zq_inW (zq_t2 (List.mem_of_getElem? (i := 17) rfl)) rfl
theorem zu_337 : Cond.fieldLink RX8 88 "DollsAhead" "oddsSixteenths" "I" ∈ zq_W := zq_inW (zq_t2 (List.mem_of_getElem? (i := 18) rfl)) rfl
theorem zu_338 : Cond.fieldLink RX8 91 "DollsAhead" "oddsHour" "I" ∈ zq_W := zq_inW (zq_t2 (List.mem_of_getElem? (i := 19) rfl)) rfl
theorem zu_374 : Cond.arrayClass .long ∈ zq_W := zq_inW (zq_t2 (List.mem_of_getElem? (i := 55) rfl)) rfl
theorem zu_863 : Cond.methodLink RX9 1 objectInit ∈ zq_W := zq_inW (zq_t4 (List.mem_of_getElem? (i := 64) rfl)) rfl
theorem zu_864 : Cond.fieldLink RX9 7 "DollsAheadModel" "typed" "[I" ∈ zq_W := zq_inW (zq_t4 (List.mem_of_getElem? (i := 65) rfl)) rfl
theorem zu_865 : Cond.fieldLink RX9 13 "DollsAheadModel" "texts" "[I" ∈ zq_W := zq_inW (zq_t4 (List.mem_of_getElem? (i := 66) rfl)) rfl
theorem zu_867 : Cond.fieldLink RX9 16 "DollsAheadModel" "ones" "[I" ∈ zq_W := zq_inW (zq_t4 (List.mem_of_getElem? (i := 68) rfl)) rfl
theorem zu_868 : Cond.fieldLink RX9 19 "DollsAheadModel" "others" "[I" ∈ zq_W := zq_inW (zq_t4 (List.mem_of_getElem? (i := 69) rfl)) rfl
theorem zu_870 : Cond.fieldLink RX9 22 "DollsAheadModel" "sorts" "[I" ∈ zq_W := zq_inW (zq_t4 (List.mem_of_getElem? (i := 71) rfl)) rfl
theorem zu_871 : Cond.fieldLink RX9 25 "DollsAheadModel" "rooms" "[I" ∈ zq_W := zq_inW (zq_t4 (List.mem_of_getElem? (i := 72) rfl)) rfl
theorem zu_872 : Cond.fieldLink RX9 28 "DollsAheadModel" "beds" "[I" ∈ zq_W := zq_inW (zq_t4 (List.mem_of_getElem? (i := 73) rfl)) rfl
theorem zu_873 : Cond.fieldLink RX9 89 "DollsAheadModel" "aheadTold" "I" ∈ zq_W := zq_inW (zq_t4 (List.mem_of_getElem? (i := 74) rfl)) rfl
theorem zu_875 : Cond.fieldLink RX9 31 "DollsAheadModel" "eventKind" "[I" ∈ zq_W := zq_inW (zq_t4 (List.mem_of_getElem? (i := 76) rfl)) rfl
theorem zu_876 : Cond.fieldLink RX9 34 "DollsAheadModel" "eventHour" "[I" ∈ zq_W := zq_inW (zq_t4 (List.mem_of_getElem? (i := 77) rfl)) rfl
theorem zu_877 : Cond.fieldLink RX9 37 "DollsAheadModel" "eventNumber" "[I" ∈ zq_W := zq_inW (zq_t4 (List.mem_of_getElem? (i := 78) rfl)) rfl
theorem zu_880 : Cond.fieldLink RX9 40 "DollsAheadModel" "kindNow" "[I" ∈ zq_W := zq_inW (zq_t4 (List.mem_of_getElem? (i := 81) rfl)) rfl
theorem zu_881 : Cond.fieldLink RX9 43 "DollsAheadModel" "hourNow" "[I" ∈ zq_W := zq_inW (zq_t4 (List.mem_of_getElem? (i := 82) rfl)) rfl
theorem zu_882 : Cond.fieldLink RX9 46 "DollsAheadModel" "numberNow" "[I" ∈ zq_W := zq_inW (zq_t4 (List.mem_of_getElem? (i := 83) rfl)) rfl
theorem zu_886 : Cond.fieldLink RX9 49 "DollsAheadModel" "hamAt" "[I" ∈ zq_W := zq_inW (zq_t4 (List.mem_of_getElem? (i := 87) rfl)) rfl
theorem zu_887 : Cond.fieldLink RX9 52 "DollsAheadModel" "farAt" "[I" ∈ zq_W := zq_inW (zq_t4 (List.mem_of_getElem? (i := 88) rfl)) rfl
theorem zu_888 : Cond.fieldLink RX9 55 "DollsAheadModel" "roomAt" "[I" ∈ zq_W := zq_inW (zq_t4 (List.mem_of_getElem? (i := 89) rfl)) rfl
theorem zu_889 : Cond.fieldLink RX9 58 "DollsAheadModel" "planRow" "[I" ∈ zq_W := zq_inW (zq_t4 (List.mem_of_getElem? (i := 90) rfl)) rfl
theorem zu_891 : Cond.fieldLink RX9 61 "DollsAheadModel" "seenHour" "[I" ∈ zq_W := zq_inW (zq_t4 (List.mem_of_getElem? (i := 92) rfl)) rfl
theorem zu_892 : Cond.fieldLink RX9 64 "DollsAheadModel" "seenWho" "[I" ∈ zq_W := zq_inW (zq_t4 (List.mem_of_getElem? (i := 93) rfl)) rfl
theorem zu_893 : Cond.fieldLink RX9 67 "DollsAheadModel" "seenRoom" "[I" ∈ zq_W := zq_inW (zq_t4 (List.mem_of_getElem? (i := 94) rfl)) rfl
theorem zu_894 : Cond.fieldLink RX9 70 "DollsAheadModel" "roomBy" "[I" ∈ zq_W := zq_inW (zq_t4 (List.mem_of_getElem? (i := 95) rfl)) rfl
theorem zu_895 : Cond.fieldLink RX9 73 "DollsAheadModel" "isThere" "[Z" ∈ zq_W := zq_inW (zq_t4 (List.mem_of_getElem? (i := 96) rfl)) rfl
theorem zu_896 : Cond.fieldLink RX9 77 "DollsAheadModel" "forms" "[I" ∈ zq_W := zq_inW (zq_t4 (List.mem_of_getElem? (i := 97) rfl)) rfl
theorem zu_897 : Cond.fieldLink RX9 80 "DollsAheadModel" "sizes" "[I" ∈ zq_W := zq_inW (zq_t4 (List.mem_of_getElem? (i := 98) rfl)) rfl
theorem zu_898 : Cond.fieldLink RX9 83 "DollsAheadModel" "items" "[I" ∈ zq_W := zq_inW (zq_t4 (List.mem_of_getElem? (i := 99) rfl)) rfl
theorem zu_899 : Cond.fieldLink RX9 86 "DollsAheadModel" "moved" "[I" ∈ zq_W := zq_inW (zq_t4 (List.mem_of_getElem? (i := 100) rfl)) rfl
theorem zu_976 : Cond.arrayClass .boolean ∈ zq_W := zq_inW (zq_t4 (List.mem_of_getElem? (i := 177) rfl)) rfl
theorem dJ7_fill_53178_0 : decode cJ7_fill_53178 0 = .ok (.iconst 0, 1) := by decide +kernel
theorem dJ7_fill_53178_1 : decode cJ7_fill_53178 1 = .ok (.istore_n 2, 1) := by decide +kernel
theorem dJ7_fill_53178_2 : decode cJ7_fill_53178 2 = .ok (.aload_n 0, 1) := by decide +kernel
theorem dJ7_fill_53178_3 : decode cJ7_fill_53178 3 = .ok (.arraylength, 1) := by decide +kernel
theorem dJ7_fill_53178_4 : decode cJ7_fill_53178 4 = .ok (.istore_n 3, 1) := by decide +kernel
theorem dJ7_fill_53178_5 : decode cJ7_fill_53178 5 = .ok (.iload_n 2, 1) := by decide +kernel
theorem dJ7_fill_53178_6 : decode cJ7_fill_53178 6 = .ok (.iload_n 3, 1) := by decide +kernel
theorem dJ7_fill_53178_7 : decode cJ7_fill_53178 7 = .ok (.if_icmp .ge 13, 3) := by decide +kernel
theorem dJ7_fill_53178_10 : decode cJ7_fill_53178 10 = .ok (.aload_n 0, 1) := by decide +kernel
theorem dJ7_fill_53178_11 : decode cJ7_fill_53178 11 = .ok (.iload_n 2, 1) := by decide +kernel
theorem dJ7_fill_53178_12 : decode cJ7_fill_53178 12 = .ok (.iload_n 1, 1) := by decide +kernel
theorem dJ7_fill_53178_13 : decode cJ7_fill_53178 13 = .ok (.iastore, 1) := by decide +kernel
theorem dJ7_fill_53178_14 : decode cJ7_fill_53178 14 = .ok (.iinc 2 1, 3) := by decide +kernel
theorem dJ7_fill_53178_17 : decode cJ7_fill_53178 17 = .ok (.goto (-12), 3) := by decide +kernel
theorem dJ7_fill_53178_20 : decode cJ7_fill_53178 20 = .ok (.return_, 1) := by decide +kernel
set_option maxRecDepth 100000 in
set_option maxHeartbeats 4000000 in
theorem zy_fill_l {p : Program} {l : Launch} {e : Env} {R : Room} {s : State} {m : MethodId} {args : Array Value} {below : List Frame} {meth : Method} {c : Code} {cells slots : Nat} {Q : State → Prop} {g : zq_G} {A : Nat → Prop} {h0 : Nat} (hx : p.tables.exec = Jvm.exec) (hb : c.code = cJ7_fill_53178) (hK : va_K g.1 vwCl (zq_tys g) s)
    (kk : ∀ (H : Heap) (locs : List Loc) (ls : Array Slot) (f : Nat → Int32), (∀ j, j < 9 → f j = -1) → va_P g.1 vwCl [(h0, .inl (zq_cA g 0, (9, .inl f)))] H → va_D A [(h0, .inl (zq_cA g 0, (9, .inl f)))] → va_S A s.heap H locs → W p l e R s m args below meth c H locs cells slots Q (F0 m 20 ls [])) :
    ∀ (n i : Nat), i + n = 9 → ∀ (H : Heap) (locs : List Loc) (ls : Array Slot) (f : Nat → Int32), (∀ j, j < i → f j = -1) → va_P g.1 vwCl [(h0, .inl (zq_cA g 0, (9, .inl f)))] H → va_D A [(h0, .inl (zq_cA g 0, (9, .inl f)))] → va_S A s.heap H locs → lv_has ls 4 [(0, .ref h0), (1, .int (-1)), (2, .int (nI i)), (3, .int 9)] → W p l e R s m args below meth c H locs cells slots Q (F0 m 5 ls []) := by
  intro n
  induction n with
  | zero =>
    intro i hi H locs ls f hf hP hD hS hl
    have hi9 : i = 9 := by omega
    subst hi9
    refine lv_iload_n hx hb dJ7_fill_53178_5 rfl (lv_at hl 2 rfl) ?_
    refine lv_iload_n hx hb dJ7_fill_53178_6 rfl (lv_at hl 3 rfl) ?_
    exact lv_icmp_ge (tgt := 20) hx hb dJ7_fill_53178_7 (by decide) (fun _ => kk H locs ls f hf hP hD hS) (fun h9 => absurd (by decide) h9)
  | succ n ih =>
    intro i hi H locs ls f hf hP hD hS hl
    refine lv_iload_n hx hb dJ7_fill_53178_5 rfl (lv_at hl 2 rfl) ?_
    refine lv_iload_n hx hb dJ7_fill_53178_6 rfl (lv_at hl 3 rfl) ?_
    refine lv_icmp_ge (tgt := 20) hx hb dJ7_fill_53178_7 (by decide) (fun h9 => absurd h9 ?_) (fun _ => ?_)
    · rw [show (9 : Int32) = nI 9 from rfl, zn_le (by omega) (by omega)]; omega
    refine lv_aload_n hx hb dJ7_fill_53178_10 rfl (lv_at hl 0 rfl) ?_
    refine lv_iload_n hx hb dJ7_fill_53178_11 rfl (lv_at hl 2 rfl) ?_
    refine lv_iload_n hx hb dJ7_fill_53178_12 rfl (lv_at hl 1 rfl) ?_
    refine va_iast (D := g.1) hx hb hK hP hD hS 0 0 rfl rfl (zn_in (k := i) rfl (by omega) (by decide)) dJ7_fill_53178_13 (fun H locs hP hD hS => ?_)
    rw [zn_cl (n := i) (by omega)] at hP hD
    refine lv_iinc (v := nI (i + 1)) (lv' := [(2, .int (nI (i + 1))), (0, .ref h0), (1, .int (-1)), (3, .int 9)]) hx hb dJ7_fill_53178_14 hl (k := 2) rfl (zn_add i 1) (by decide) rfl (fun ls hl => ?_)
    refine lv_goto (tgt := 5) hx hb dJ7_fill_53178_17 (by decide) ?_
    refine ih (i + 1) (by omega) H locs ls (upd f i (-1)) (fun j hj => ?_) hP hD hS (lv_sub hl [1, 2, 0, 3] rfl)
    unfold upd
    by_cases h : j = i
    · rw [if_pos h]
    · rw [if_neg h]; exact hf j (by omega)
theorem zy_ints {g : zq_G} {a n : Nat} {f f' : Nat → Int32} {H : Heap} (hP : va_P g.1 vwCl [(a, .inl (zq_cA g 0, (n, .inl f)))] H) (hf : ∀ j, j < n → f j = f' j) : va_P g.1 vwCl [(a, .inl (zq_cA g 0, (n, .inl f')))] H := by
  intro i q hq
  have hi : i < 1 := (List.getElem?_eq_some_iff.mp hq).1
  obtain rfl : i = 0 := by omega
  cases hq
  have h1 := hP 0 _ rfl
  have h2 : arrV (zq_cA g 0) n (fun j => .int (f j)) = arrV (zq_cA g 0) n (fun j => .int (f' j)) := by
    unfold arrV
    congr 2
    funext j
    show Value.int (f j.val) = Value.int (f' j.val)
    rw [hf j.val j.isLt]
  have h3 : H[a]? = some (arrV (zq_cA g 0) n (fun j => .int (f j))) := h1
  have h4 : H[a]? = some (arrV (zq_cA g 0) n (fun j => .int (f' j))) := by rw [← h2]; exact h3
  exact h4
set_option maxRecDepth 100000 in
set_option maxHeartbeats 4000000 in
theorem zy_fill (l : Launch) (g : zq_G) (h0 : Nat) (sz : Nat) : zy_Mt g l yJ7_fill_53178 cJ7_fill_53178 4 { frames := 0, cells := 0, slots := 0, locals := 0 } [.ref h0, .int (-1)] [(h0, zy_i g 9)] sz (fun (_ : Nat → Nat) => [(h0, zy_m g 9)]) 0 0 := by
  refine zy_of (by decide) (Nat.le_of_ble_eq_true rfl) (fun hx hb hr hml hown hts hin0 hK hN hlocks A hA hP hD ls hl hS => ?_)
  refine lv_iconst (v := 0) hx hb dJ7_fill_53178_0 (by decide) ?_
  refine lv_istore_n (lv' := [(2, .int 0), (0, .ref h0), (1, .int (-1))]) hx hb dJ7_fill_53178_1 rfl hl (by decide) rfl (fun ls hl => ?_)
  refine lv_aload_n hx hb dJ7_fill_53178_2 rfl (lv_at hl 1 rfl) ?_
  refine va_alen (D := g.1) (v := 9) hx hb hK hP 0 0 rfl rfl rfl dJ7_fill_53178_3 ?_
  refine lv_istore_n (lv' := [(3, .int 9), (2, .int 0), (0, .ref h0), (1, .int (-1))]) hx hb dJ7_fill_53178_4 rfl hl (by decide) rfl (fun ls hl => ?_)
  refine zy_fill_l hx hb hK (fun H locs ls f hf hP hD hS => ?_) 9 0 rfl _ _ ls (fun _ => 0) (fun j hj => absurd hj (Nat.not_lt_zero j)) hP hD hS (lv_sub hl [2, 3, 1, 0] rfl)
  exact zy_ret (u := fun _ => 0) hx hb hr hlocks (zy_ints hP hf) (hD.set (p := 0) (e := zy_m g 9) rfl) hS dJ7_fill_53178_20
