/-! ===== calls: a callee's contract out of its walk; a call by the callee's contract ===== -/
def zq_Wd (g : zq_G) (μ : zq_Me) (U : State) : Prop := va_P g.1 vwCl (zq_ws g μ) U.heap ∧ va_K g.1 vwCl (zq_tys g) U ∧ va_X (zq_ad g zq_nC) g.2.2.2.1 g.2.2.2.2 U U.heap ∧ zq_ad g zq_nC < U.heap.size ∧ zq_inj g ∧ μ.2.2.2 = g.2.2.2 ∧ zq_Dk U
def zq_Qc (g : zq_G) (Q1 : Option Value → zq_Me → Prop) : Array Value → State → Outcome → State → Prop := fun _ st oc t => (∃ (v : Option Value) (μ' : zq_Me), oc = .returned (v.map (zq_cv g)) ∧ Q1 v μ' ∧ va_P g.1 vwCl (zq_ws g μ') t.heap ∧ μ'.2.2.2 = g.2.2.2) ∧ va_F (zq_A g) st t
def zq_Mt (g : zq_G) (l : Launch) (y : MethodName) (bytes : ByteArray) (maxL : Nat) (ret : Option FieldType) (rm : Room) (as : List Value) (μ : zq_Me) (Q1 : Option Value → zq_Me → Prop) : Prop :=
  Met l y (Cond.code y bytes maxL ret :: zq_W) rm (va_Pc (as.map (zq_cv g)) (zq_Wd g μ)) (zq_Qc g Q1) 0 0 (zq_A g)
def zq_rv (recv : Option Nat) (as : List Value) : Prop := match recv with
  | none => True
  | some ci => ∃ (a : Nat) (as' : List Value) (cs : List Nat), as = .ref a :: as' ∧ zq_sh a = (0, ci, cs)
def zq_sndc (cc : ByteArray) (nL : Nat) (own : String) (rf rl pc n : Nat) (recv : Option Nat) (y : MethodName) (bytes : ByteArray) (maxL : Nat) (ret : Option FieldType) (rm : Room) : Prop :=
  ∀ (g : zq_G) {p : Program} {l : Launch} {e : Env} {R : Room} {s : State} {m : MethodId} {args : Array Value} {below : List Frame} {meth : Method} {c : Code} {H : Heap} {locs : List Loc} {cells slots : Nat} {Z : State → Prop} {ls : Array Slot} {lo : zq_Lo} {as rest : List Value} {μ : zq_Me} {Q1 : Option Value → zq_Me → Prop},
    zq_Cx g cc nL own rf rl R p s m args c cells slots → zq_St g s H locs nL ls lo μ → as.length = n → zq_rv recv as → zq_cats rest ≤ 8 → zq_Mt g l y bytes maxL ret rm as μ Q1 →
    (∀ (v : Option Value) (μ' : zq_Me) (H' : Heap) (locs' : List Loc), Q1 v μ' → zq_St g s H' locs' nL ls lo μ' → W p l e R s m args below meth c H' locs' cells slots Z (F0 m (pc + 3) ls ((v.toList ++ rest).map (zq_cv g)))) →
    W p l e R s m args below meth c H locs cells slots Z (F0 m pc ls ((as.reverse ++ rest).map (zq_cv g)))
theorem zq_good {ws : List Cond} (h : ∀ w ∈ ws, w ∈ zq_W) : GoodIn zq_W ws := fun w hw => ⟨h w hw, good_of_word (List.mem_filter.mp (h w hw)).2⟩
theorem zq_blind {g : zq_G} {av : List Value} {μ : zq_Me} : FrameBlind (va_Pc av (zq_Wd g μ)) := by
  intro a U h mk q
  obtain ⟨q0, q1, q2, q3, q4, q5, q6, q7⟩ := q
  exact ⟨q0, q1, va_K.moved (u := U) (U := U.calling h mk a) (Vm.Alike.refl U.vm) q2, va_X.moved (u := U) (U := U.calling h mk a) (Vm.Alike.refl U.vm) q3, q4, q5, q6, zq_Dk.same (s := U) (U := U.calling h mk a) rfl q7⟩
section ZQC
variable {p : Program} {l : Launch} {e : Env} {R : Room} {s : State} {m : MethodId} {args : Array Value} {below : List Frame} {meth : Method} {c : Code} {H : Heap} {locs : List Loc} {cells slots : Nat} {Z : State → Prop}
theorem zq_callg {g : zq_G} {pc : Nat} {ls : Array Slot} {st0 rest : List Value} {Q1 : Option Value → zq_Me → Prop} {a : Array Value} (hr : va_Run p l e R s m args below meth c H locs cells slots 0 0 (F0 m pc ls st0) rest (zq_Qc g Q1 a) (zq_A g)) (hS : va_S (zq_A g) s.heap H locs)
    (kk : ∀ (v : Option Value) (μ' : zq_Me) (H1 : Heap) (locs1 : List Loc), Q1 v μ' → va_P g.1 vwCl (zq_ws g μ') H1 → μ'.2.2.2 = g.2.2.2 → va_S (zq_A g) s.heap H1 locs1 → W p l e R s m args below meth c H1 locs1 cells slots Z (F0 m (pc + 3) ls ((v.map (zq_cv g)).toList ++ rest))) : W p l e R s m args below meth c H locs cells slots Z (F0 m pc ls st0) := by
  intro T hT X
  obtain ⟨v, st₀, t, T', L, h0, X', hL, e1, e2, ⟨⟨v', μ', hv, hq, hp, hs⟩, hz, hk⟩, st⟩ := hr T hT X
  cases hv
  rw [h0] at hz hk
  obtain ⟨t2, a1, b1⟩ := kk v' μ' T'.heap (locs ++ L) hq (by rw [e1]; exact hp) hs
    ⟨Nat.le_trans hS.1 (by rw [e1]; exact hz), fun q h1 h2 => by rw [e1, hk q (Nat.lt_of_lt_of_le h1 hS.1) h2]; exact hS.2.1 q h1 h2, fun q hq => by
      rcases List.mem_append.mp hq with h | h
      · exact hS.2.2 q h
      · exact hL q h⟩ T' rfl X'
  exact ⟨t2, st t2 a1, b1⟩
theorem zq_wd {g : zq_G} {cc : ByteArray} {nL rf rl : Nat} {own : String} {ls : Array Slot} {lo : zq_Lo} {μ : zq_Me} (hC : zq_Cx g cc nL own rf rl R p s m args c cells slots) (hS : zq_St g s H locs nL ls lo μ) (U : State) (hU : U.heap = H) (hW : s.WarmedH U.vm) : zq_Wd g μ U := by
  obtain ⟨hx, hb, hml, hown, hts, hK, hX, hbl, hJ, hrf, hrl, hce, hsl, hdk⟩ := hC
  obtain ⟨hP, hH, hL, hsc⟩ := hS
  have hq : H[zq_ad g zq_nC]? = s.heap[zq_ad g zq_nC]? := hH.2.1 _ hbl (zq_notA hJ)
  exact ⟨by rw [hU]; exact hP, va_K.moved hW.alike hK, va_X.moved hW.alike (hX.kept (by rw [hU]; exact hq)), by rw [hU]; exact Nat.lt_of_lt_of_le hbl hH.1, hJ, hsc, hdk.warm hW⟩
end ZQC
theorem zq_optmap (g : zq_G) (v : Option Value) (rest : List Value) : (v.map (zq_cv g)).toList ++ rest.map (zq_cv g) = (v.toList ++ rest).map (zq_cv g) := by cases v <;> rfl
theorem zq_s_callS {cc : ByteArray} {nL : Nat} {own : String} {rf rl pc n index maxL : Nat} {y : MethodName} {bytes : ByteArray} {ret : Option FieldType} {rm : Room} (hdg : decode cc pc = .ok (.invokestatic index, 3)) (h1 : Cond.methodLink own index y ∈ zq_W) (h2 : Cond.static y ∈ zq_W) (h3 : Cond.initialized y.cls ∈ zq_W) (h4 : Cond.code y bytes maxL ret ∈ zq_W)
    (hd : y.cls ≠ "java/lang/invoke/MethodHandle" ∧ y.cls ≠ "java/lang/invoke/VarHandle" ∧ (parseMethodDescriptor y.desc).map (fun d => d.parameters.length) = some n) (hR : rm.frames + 1 ≤ rf ∧ 8 + (maxL + 11) + rm.locals ≤ rl) (hz : rm.cells = 0 ∧ rm.slots = 0) : zq_sndc cc nL own rf rl pc n none y bytes maxL ret rm := by
  intro g p l e R s m args below meth c H locs cells slots Z ls lo as rest μ Q1 hC hS hn hr hw hM k
  have hC0 := hC
  obtain ⟨hx, hb, hml, hown, hts, hK, hX, hbl, hJ, hrf, hrl, hce, hsl, hdk⟩ := hC
  have hS0 := hS
  obtain ⟨hP, hH, hL, hsc⟩ := hS
  have hG : GoodIn zq_W (va_wsS own index y (Cond.code y bytes maxL ret :: zq_W)) := zq_good (by
    intro w hw
    simp only [va_wsS, List.cons_append, List.nil_append, List.mem_cons] at hw
    rcases hw with rfl | rfl | rfl | rfl | hw
    · exact h1
    · exact h2
    · exact h3
    · exact h4
    · exact hw)
  refine zq_callg (a := (as.map (zq_cv g)).toArray) (rest := rest.map (zq_cv g)) (va_runS (As := as.map (zq_cv g)) (n := n) ⟨hx, hb, hml, hown, hts⟩ hM (va_cwS n hts hG rfl hz.1 hz.2 hd ⟨by omega, by omega⟩) ⟨zq_blind, fun U hU hW => ⟨rfl, zq_wd hC0 hS0 U hU hW⟩⟩ rfl (by rw [List.length_map]; exact hn) hL.1 (by show (as.reverse ++ rest).map (zq_cv g) = _; rw [List.map_append, List.map_reverse]) (lv_room (by rw [zq_cats_map]; exact hw)) hdg ⟨hce, hsl⟩) hH (fun v μ' H1 locs1 q1 q2 q3 q4 => ?_)
  rw [zq_optmap]
  exact k v μ' H1 locs1 q1 ⟨q2, q4, hL, q3⟩
theorem zq_recv {g : zq_G} {s : State} {H : Heap} {μ : zq_Me} {a ci : Nat} {cs : List Nat} {q : vw_C} (hK : va_K g.1 vwCl (zq_tys g) s) (hP : va_P g.1 vwCl (zq_ws g μ) H) (h : zq_sh a = (0, ci, cs)) (hc : vwCl[ci]? = some q) : ∃ cell : Cell, H[zq_ad g a]? = some cell ∧ cell.vm.isStatics = false ∧ s.vm.findClass q.1 = some cell.cls :=
  va_recv hK hP hc (zq_row (zq_lt h (by decide)) (zq_ce0 h))
theorem zq_s_callV {cc : ByteArray} {nL : Nat} {own : String} {rf rl pc n index maxL ci : Nat} {y : MethodName} {bytes : ByteArray} {ret : Option FieldType} {rm : Room} {q : vw_C} (hdg : decode cc pc = .ok (.invokevirtual index, 3)) (hc : vwCl[ci]? = some q) (h1 : Cond.methodLink own index y ∈ zq_W) (h2 : Cond.instanceMethod y ∈ zq_W) (h3 : Cond.selects q.1 y y ∈ zq_W) (h5 : Cond.initialized q.1 ∈ zq_W) (h4 : Cond.code y bytes maxL ret ∈ zq_W)
    (hd : y.cls = q.1 ∧ y.cls ≠ "java/lang/invoke/MethodHandle" ∧ y.cls ≠ "java/lang/invoke/VarHandle" ∧ (parseMethodDescriptor y.desc).map (fun d => d.parameters.length) = some n) (hR : rm.frames + 1 ≤ rf ∧ 8 + (maxL + 11) + rm.locals ≤ rl) (hz : rm.cells = 0 ∧ rm.slots = 0) : zq_sndc cc nL own rf rl pc (n + 1) (some ci) y bytes maxL ret rm := by
  intro g p l e R s m args below meth c H locs cells slots Z ls lo as rest μ Q1 hC hS hn hr hw hM k
  obtain ⟨a, as', cs, rfl, hsh⟩ := hr
  have hC0 := hC
  obtain ⟨hx, hb, hml, hown, hts, hK, hX, hbl, hJ, hrf, hrl, hce, hsl, hdk⟩ := hC
  have hS0 := hS
  obtain ⟨hP, hH, hL, hsc⟩ := hS
  have hG : GoodIn zq_W (wsV own index q.1 y (Cond.code y bytes maxL ret :: zq_W)) := zq_good (by
    intro w hw
    simp only [wsV, List.cons_append, List.nil_append, List.mem_cons] at hw
    rcases hw with rfl | rfl | rfl | rfl | rfl | hw
    · exact h1
    · exact h2
    · exact h3
    · exact h5
    · exact h4
    · exact hw)
  refine zq_callg (a := (Value.ref (zq_ad g a) :: as'.map (zq_cv g)).toArray) (rest := rest.map (zq_cv g)) (va_runV (As := as'.map (zq_cv g)) (n := n) (b := zq_ad g a) ⟨hx, hb, hml, hown, hts⟩ hM (cwV n hts hG rfl hz.1 hz.2 hd ⟨by omega, by omega⟩) ⟨zq_blind, zq_recv hK hP hsh hc, fun U hU hW => ⟨rfl, zq_wd hC0 hS0 U hU hW⟩⟩ rfl (by rw [List.length_map]; simpa using hn) hL.1 (by show ((Value.ref a :: as').reverse ++ rest).map (zq_cv g) = _; rw [List.map_append, List.map_reverse, List.map_cons, List.reverse_cons, List.append_assoc]; rfl) (lv_room (by rw [zq_cats_map]; exact hw)) hdg ⟨hce, hsl⟩) hH (fun v μ' H1 locs1 q1 q2 q3 q4 => ?_)
  rw [zq_optmap]
  exact k v μ' H1 locs1 q1 ⟨q2, q4, hL, q3⟩
theorem zq_s_callU {cc : ByteArray} {nL : Nat} {own owner : String} {rf rl pc n index maxL ci : Nat} {x y : MethodName} {bytes : ByteArray} {ret : Option FieldType} {rm : Room} {q : vw_C} (hdg : decode cc pc = .ok (.invokevirtual index, 3)) (hc : vwCl[ci]? = some q) (h1 : Cond.methodLink own index x ∈ zq_W) (h2 : Cond.sameMethod x.cls owner x.name x.desc ∈ zq_W) (h3 : Cond.selects q.1 x y ∈ zq_W) (h5 : Cond.instanceMethod y ∈ zq_W) (h6 : Cond.initialized y.cls ∈ zq_W) (h4 : Cond.code y bytes maxL ret ∈ zq_W)
    (hyx : y = ⟨owner, x.name, x.desc⟩ ∨ (⟨owner, x.name, x.desc⟩ : MethodName) ∈ zq_dl) (hd : owner ≠ "java/lang/invoke/MethodHandle" ∧ owner ≠ "java/lang/invoke/VarHandle" ∧ (parseMethodDescriptor x.desc).map (fun d => d.parameters.length) = some n) (hR : rm.frames + 1 ≤ rf ∧ 8 + (maxL + 11) + rm.locals ≤ rl) (hz : rm.cells = 0 ∧ rm.slots = 0) : zq_sndc cc nL own rf rl pc (n + 1) (some ci) y bytes maxL ret rm := by
  intro g p l e R s m args below meth c H locs cells slots Z ls lo as rest μ Q1 hC hS hn hr hw hM k
  obtain ⟨a, as', cs, rfl, hsh⟩ := hr
  have hC0 := hC
  obtain ⟨hx, hb, hml, hown, hts, hK, hX, hbl, hJ, hrf, hrl, hce, hsl, hdk⟩ := hC
  have hS0 := hS
  obtain ⟨hP, hH, hL, hsc⟩ := hS
  have hG : GoodIn zq_W (va_wsU own index q.1 owner x y (Cond.code y bytes maxL ret :: zq_W)) := zq_good (by
    intro w hw
    simp only [va_wsU, List.cons_append, List.nil_append, List.mem_cons] at hw
    rcases hw with rfl | rfl | rfl | rfl | rfl | rfl | hw
    · exact h1
    · exact h2
    · exact h3
    · exact h5
    · exact h6
    · exact h4
    · exact hw)
  have hCU : va_CU R s args own q.1 owner index x y bytes maxL ret (Cond.code y bytes maxL ret :: zq_W) rm 0 0 n := by
    rcases hyx with hyx | hyx
    · exact va_cwU n hts hG rfl hz.1 hz.2 hyx hd ⟨by omega, by omega⟩
    · exact va_cwA n hts hG rfl hz.1 hz.2 (hdk _ hyx) hd ⟨by omega, by omega⟩
  refine zq_callg (a := (Value.ref (zq_ad g a) :: as'.map (zq_cv g)).toArray) (rest := rest.map (zq_cv g)) (va_runU (As := as'.map (zq_cv g)) (n := n) (b := zq_ad g a) ⟨hx, hb, hml, hown, hts⟩ hM hCU ⟨zq_blind, zq_recv hK hP hsh hc, fun U hU hW => ⟨rfl, zq_wd hC0 hS0 U hU hW⟩⟩ rfl (by rw [List.length_map]; simpa using hn) hL.1 (by show ((Value.ref a :: as').reverse ++ rest).map (zq_cv g) = _; rw [List.map_append, List.map_reverse, List.map_cons, List.reverse_cons, List.append_assoc]; rfl) (lv_room (by rw [zq_cats_map]; exact hw)) hdg ⟨hce, hsl⟩) hH (fun v μ' H1 locs1 q1 q2 q3 q4 => ?_)
  rw [zq_optmap]
  exact k v μ' H1 locs1 q1 ⟨q2, q4, hL, q3⟩
