/-! THE CLAIM OUT OF ONE WALK OF THE LAW'S BODY. Your part is whole_start (and what it stands on); all else here is the same for every law, but numbers. -/
def R_law : String := "DollsAheadLaw"
def lw_P (b : Addr) (xs : List Int32) (args : Array Value) (s : State) : Prop := args = #[.ref b] ∧ s.IntsAt b xs ∧ xs.length ≤ 384 ∧ (Jvm.Cond.and given_1 narrow_1).before args s = true
def lw_Q (_ : Array Value) (s : State) (o : Outcome) (t : State) : Prop := o = .returned (some (.int 1)) ∧ Framed s o t [] 600000 7302250
def lw_Z (below : List Frame) (a : Array Value) (s : State) : State → Prop := fun t => ∃ o, t.status = .running ∧ Ended t below o ∧ lw_Q a s o t
/-- the law's own end, with 1 on the stack, nothing written that was there before, its room as the claim has it -/
theorem lw_ret {p : Program} {l : Launch} {e : Env} {s : State} {m : MethodId} {below : List Frame} {meth : Method} {c : Code} {b : Nat} (hx : p.tables.exec = Jvm.exec) (hb : c.code = code) (hr : meth.sig.returnType = ret) (hlocks : meth.locks = false) {pc : Nat} {H : Heap} {ls : Array Slot} (hdg : decode code pc = .ok (.ireturn, 1)) : W p l e room_1 s m #[Value.ref b] below meth c H [] 600000 7302250 (lw_Z below #[Value.ref b] s) (F0 m pc ls [.int 1]) := by
  intro T hT X
  obtain ⟨fs, hret, hrun, hended, hW, hframe⟩ := X.leave (v := some (.int 1)) (hlocks := hlocks) (fun h => by rw [hr] at h; cases h)
  have hmeth' : T.vm.method? m = some meth := X.method'
  refine ⟨T.setFrames fs, ?_, .returned (some (.int 1)), hrun, hended, rfl, ⟨_, rfl⟩, hW, hframe⟩
  jvm_step X.here [X.here.top, hx, hb, hdg, hmeth', hr, ret, narrow_b1]
  (try refine ⟨rfl, ?_⟩); (try refine ⟨rfl, ?_⟩)
  first | (intro acts; rw [hret _ acts rfl rfl rfl]) | rw [hret _ _ rfl rfl rfl]
  exact Steps.refl _
/-- what holds at the law's entry: the machine, the code, the tables' words (any of lw_tbl by 'hts w (by decide +kernel)'), the script of L ints xs at the cell b, what the Statement gives of the start (any of its parts by flat_of_before) -/
def lw_At (p : Program) (s : State) (m : MethodId) (meth : Method) (c : Code) (b L : Nat) (xs : Nat → Int32) : Prop :=
  p.tables.exec = Jvm.exec ∧ c.code = code ∧ meth.sig.returnType = ret ∧ c.maxLocals = 4 ∧ s.vm.findClass R_law = some m.cls ∧ (∀ w ∈ lw_tbl, w.before #[Value.ref b] s = true) ∧ va_X b L xs s s.heap ∧ b < s.heap.size ∧ meth.locks = false ∧ (Jvm.Cond.and given_1 narrow_1).before #[Value.ref b] s = true
set_option maxRecDepth 100000 in
set_option maxHeartbeats 4000000 in
/-- from the world of both: the small machine's run is the machine's -/
theorem zy_fin {p : Program} {e : Env} {s : State} {m : MethodId} {below : List Frame} {meth : Method} {c : Code} (l : Launch) {b L : Nat} {xs : Nat → Int32} (hL : L ≤ 384) (C0 : lw_At p s m meth c b L xs) (hts : ∀ w ∈ zq_W, w.before #[Value.ref b] s = true) {D : va_G} {cA : Nat → ClassId} (hK0 : va_K D vwCl (zq_tys (D, cA, fun _ => 0, 0, fun _ => 0)) s) (hdk : zq_Dk s) {ad : Nat → Nat} {H : Heap} {ls : Array Slot} {μ : zq_Me} (hP : va_P D vwCl (zq_ws (D, cA, ad, L, xs) μ) H) (hD : va_D (fun q : Nat => s.heap.size ≤ q) (zq_ws (D, cA, ad, L, xs) μ)) (hS : va_S (fun q : Nat => s.heap.size ≤ q) s.heap H []) (hg : zq_Wp zn_L_law 16 [(0, .ref 77), (1, .ref 0), (2, .ref 50)] [] μ (fun v _ => v = some (.int 1))) (hsc : μ.2.2.2 = (L, xs)) {q0 q8 : Nat} (h77 : ad 77 = b) (h0 : ad 0 = q0) (h50 : ad 50 = q8) (hl : lv_has ls 4 [(0, .ref b), (1, .ref q0), (2, .ref q8)]) : W p l e room_1 s m #[Value.ref b] below meth c H [] 77 4940 (lw_Z below #[Value.ref b] s) (F0 m 16 ls []) := by
  obtain ⟨hx, hb, hr, hml, hown, htb, hX, hbl, hlocks, hgv⟩ := id C0
  subst h77
  subst h0
  subst h50
  obtain ⟨g, hg9⟩ : ∃ k9 : zq_G, k9 = (D, cA, ad, L, xs) := ⟨_, rfl⟩
  have hP1 : va_P g.1 vwCl (zq_ws g μ) H := by rw [hg9]; exact hP
  have hD1 : va_D (fun q : Nat => s.heap.size ≤ q) (zq_ws g μ) := by rw [hg9]; exact hD
  have hK : va_K g.1 vwCl (zq_tys g) s := by rw [hg9]; exact hK0
  have had : ∀ k, zq_ad g k = ad k := fun k => by rw [hg9]; rfl
  have hup : ∀ k, k < zq_nC → s.heap.size ≤ zq_ad g k := fun k hk => hD1.2 k _ (zq_at hk)
  have hinj : zq_inj g := by
    intro i j hi hj hij
    by_cases h1 : i < zq_nC
    · by_cases h2 : j < zq_nC
      · exact hD1.1 i j _ _ (zq_at h1) (zq_at h2) hij
      · have h3 : j = 77 := Nat.le_antisymm hj (Nat.not_lt.mp h2)
        have h4 := hup i h1
        rw [hij, had, h3] at h4
        omega
    · have h3 : i = 77 := Nat.le_antisymm hi (Nat.not_lt.mp h1)
      by_cases h2 : j < zq_nC
      · have h4 := hup j h2
        rw [← hij, had, h3] at h4
        omega
      · exact h3.trans (Nat.le_antisymm hj (Nat.not_lt.mp h2)).symm
  have hX1 : va_X (zq_ad g zq_nC) g.2.2.2.1 g.2.2.2.2 s s.heap := by rw [hg9]; exact hX
  have hb1 : zq_ad g zq_nC < s.heap.size := by rw [had]; exact hbl
  have hl1 : lv_has ls 4 (zq_ml g [(0, .ref 77), (1, .ref 0), (2, .ref 50)]) := by rw [hg9]; exact hl
  have hsc1 : μ.2.2.2 = g.2.2.2 := by rw [hg9]; exact hsc
  refine zq_sound (l := l) hg zi_L_law rfl g (st := []) (cells := 77) (slots := 4940) ⟨hx, hb, hml, hown, hts, hK, hX1, hb1, hinj, Nat.le_refl _, Nat.le_refl _, by decide +kernel, by decide +kernel, hdk⟩ ⟨hP1, ⟨hS.1, fun q h1 h2 => hS.2.1 q h1 (Nat.not_le.mpr h1), fun _ h => by cases h⟩, hl1, hsc1⟩ ?_
  intro v μ' pc' kind H' locs' ls' hk hv hq hP' hS' hsc'
  subst hq
  have hdg : decode code pc' = .ok (.ireturn, 1) := by
    rcases hv with ⟨rfl, -⟩ | hv
    · exact hk.2
    · obtain ⟨-, h5⟩ := zq_ret_list hv
      rcases h5 with ⟨h6, h7⟩ | ⟨rfl, -⟩ | ⟨h6, x, h7⟩ | ⟨h6, x, h7, h8⟩
      · cases h7
      · exact hk.2
      · cases h7
      · cases h7
        rcases h8 with h8 | ⟨a, h8⟩ <;> cases h8
  refine va_forget (fun q hq => ?_) (W.widen (k := 600000) (n := 7302250) (by decide +kernel) (by decide +kernel) (lw_ret hx hb hr hlocks hdg))
  obtain ⟨k, h1, h2⟩ := hS'.2.2 q hq
  rw [h2]
  exact hup k h1
set_option maxRecDepth 100000 in
set_option maxHeartbeats 4000000 in
/-- YOUR PART: from the entry, for every script of at most 384 ints, the law comes to its end with true ('hflags': the launch's flags, for a law that throws: no stack traces) -/
theorem whole_start {p : Program} {e : Env} {s : State} {m : MethodId} {below : List Frame} {meth : Method} {c : Code} (l : Launch) (hflags : l.flags = flags0) {b L : Nat} {xs : Nat → Int32} (hL : L ≤ 384) (C0 : lw_At p s m meth c b L xs) : W p l e room_1 s m #[Value.ref b] below meth c s.heap [] 0 0 (lw_Z below #[Value.ref b] s) (entryFrame m ([Value.ref b] : List Value).toArray 4) := by
  obtain ⟨hx, hb, hr, hml, hown, htb, hX, hbl, hlocks, hgv⟩ := id C0
  have hts := zy_tw htb
  have hN := zy_nk htb
  have hdk := zy_dk htb
  obtain ⟨D, cA, hK0⟩ := zy_kn htb
  obtain ⟨g, hg⟩ : ∃ k9 : zq_G, k9 = (D, cA, fun _ => 0, L, xs) := ⟨_, rfl⟩
  have hK : va_K g.1 vwCl (zq_tys g) s := by rw [hg]; exact hK0
  have hA : ∀ q : Nat, s.heap.size ≤ q → (fun q : Nat => s.heap.size ≤ q) q := fun _ h => h
  have hS : va_S (fun q : Nat => s.heap.size ≤ q) s.heap s.heap [] := va_S.rf
  have hP : va_P g.1 vwCl [] s.heap := fun k q h => by simp at h
  have hD : va_D (fun q : Nat => s.heap.size ≤ q) [] := ⟨fun i j p q h => by simp at h, fun k q h => by simp at h⟩
  have hl := lv_entry ([.ref b]) (n := 4) (Nat.le_of_ble_eq_true rfl)
  rw [lg_entry_eq]
  generalize (lg_sl ([.ref b]) ++ List.replicate (4 - (lg_sl ([.ref b])).length) Slot.unset).toArray = ls at hl ⊢
  have hl : lv_has ls 4 [(0, .ref b)] := hl
  refine va_new (ci := 7) (fs := [.null, .null, .null, .null, .null, .null, .null, .null, .null, .null, .null, .null, .int 0, .int 0, .int 0, .int 0, .int 0]) (C := RX8) (T := TX8) (N := 17) hx hb hts zq_uw8 tyX8 tyX8_ok hown (hts _ zu_94) (hts _ zu_95) (hts _ zu_80) hK hP hD hS hA rfl zy_f8 (by decide +kernel) (by decide +kernel) dL_law_0 (fun q0 H hP hD hS => ?_)
  have hP : va_P g.1 vwCl [(q0, .inr (7, [.null, .null, .null, .null, .null, .null, .null, .null, .null, .null, .null, .null, .int 0, .int 0, .int 0, .int 0, .int 0]))] H := hP
  have hD : va_D (fun q : Nat => s.heap.size ≤ q) [(q0, .inr (7, [.null, .null, .null, .null, .null, .null, .null, .null, .null, .null, .null, .null, .int 0, .int 0, .int 0, .int 0, .int 0]))] := hD
  refine lv_dup hx hb dL_law_3 rfl ?_
  refine zy_callI (As := []) (rest := [.ref q0]) (n := 0) (wr := []) hx hb hml hown hts hK hN hP hD hS hA (zy_X8_init l g q0 _) [0] [] rfl rfl rfl rfl (by decide) zu_80 zu_96 zu_97 zu_98 rfl (by decide +kernel) ⟨rfl, rfl⟩ ⟨(Nat.le_of_ble_eq_true rfl), (Nat.le_of_ble_eq_true rfl)⟩ rfl hl.1 (lv_room (Nat.le_of_ble_eq_true rfl)) dL_law_4 ⟨(by decide +kernel), (by decide +kernel)⟩ (fun u H locs hP hD hS => ?_)
  have hP : va_P g.1 vwCl [(q0, .inr (7, [.ref (u 0), .ref (u 5), .ref (u 10), .ref (u 14), .ref (u 18), .ref (u 19), .ref (u 23), .ref (u 32), .ref (u 39), .ref (u 46), .ref (u 47), .ref (u 48), .int 3, .int 0, .int 0, .int (-1), .int (-1)])), ((u 0), .inr (0, [.ref (u 1), .int 35, .int 3, .int 0, .int (-1), .int 0, .ref (u 2), .ref (u 3), .ref (u 4)])), ((u 1), zy_i g 35), ((u 2), zy_i g 12), ((u 3), zy_i g 12), ((u 4), zy_i g 8), ((u 5), .inr (3, [.ref (u 6), .int 31, .int 4, .int 0, .int (-1), .int 0, .ref (u 7), .ref (u 8), .ref (u 9)])), ((u 6), zy_i g 35), ((u 7), zy_i g 8), ((u 8), zy_i g 8), ((u 9), zy_i g 8), ((u 10), .inr (1, [.ref (u 11), .ref (u 12), .ref (u 13), .int 0])), ((u 11), zy_i g 9), ((u 12), zy_i g 9), ((u 13), zy_i g 9), ((u 14), .inr (1, [.ref (u 15), .ref (u 16), .ref (u 17), .int 0])), ((u 15), zy_i g 9), ((u 16), zy_i g 9), ((u 17), zy_i g 9), ((u 18), .inr (2, [.int 0])), ((u 19), .inr (5, [.ref (u 20), .ref (u 21), .ref (u 22), .int 0])), ((u 20), zy_i g 8), ((u 21), zy_i g 8), ((u 22), zy_i g 8), ((u 23), zy_q g 4 (zy_r [(u 24), (u 26), (u 28), (u 30)])), ((u 24), .inr (4, [.ref (u 25), .int 0, .int (-1)])), ((u 25), zy_i g 60), ((u 26), .inr (4, [.ref (u 27), .int 0, .int (-1)])), ((u 27), zy_i g 60), ((u 28), .inr (4, [.ref (u 29), .int 0, .int (-1)])), ((u 29), zy_i g 60), ((u 30), .inr (4, [.ref (u 31), .int 0, .int (-1)])), ((u 31), zy_i g 60), ((u 32), .inr (6, [.ref (u 0), .ref (u 5), .ref (u 33), .ref (u 34), .ref (u 35), .ref (u 36), .ref (u 37), .ref (u 38), .ref (u 10), .int 0, .int 0, .int (-1), .int (-1), .int (-1)])), ((u 33), zy_i g 192), ((u 34), zy_i g 24), ((u 35), zy_i g 24), ((u 36), zy_i g 24), ((u 37), zy_i g 576), ((u 38), zy_m g 9), ((u 39), .inr (6, [.ref (u 0), .ref (u 5), .ref (u 40), .ref (u 41), .ref (u 42), .ref (u 43), .ref (u 44), .ref (u 45), .ref (u 10), .int 0, .int 0, .int (-1), .int (-1), .int (-1)])), ((u 40), zy_i g 192), ((u 41), zy_i g 24), ((u 42), zy_i g 24), ((u 43), zy_i g 24), ((u 44), zy_i g 576), ((u 45), zy_m g 9), ((u 46), zy_i g 192), ((u 47), zy_i g 8), ((u 48), zy_l g 8)] H := hP
  have hD : va_D (fun q : Nat => s.heap.size ≤ q) [(q0, .inr (7, [.ref (u 0), .ref (u 5), .ref (u 10), .ref (u 14), .ref (u 18), .ref (u 19), .ref (u 23), .ref (u 32), .ref (u 39), .ref (u 46), .ref (u 47), .ref (u 48), .int 3, .int 0, .int 0, .int (-1), .int (-1)])), ((u 0), .inr (0, [.ref (u 1), .int 35, .int 3, .int 0, .int (-1), .int 0, .ref (u 2), .ref (u 3), .ref (u 4)])), ((u 1), zy_i g 35), ((u 2), zy_i g 12), ((u 3), zy_i g 12), ((u 4), zy_i g 8), ((u 5), .inr (3, [.ref (u 6), .int 31, .int 4, .int 0, .int (-1), .int 0, .ref (u 7), .ref (u 8), .ref (u 9)])), ((u 6), zy_i g 35), ((u 7), zy_i g 8), ((u 8), zy_i g 8), ((u 9), zy_i g 8), ((u 10), .inr (1, [.ref (u 11), .ref (u 12), .ref (u 13), .int 0])), ((u 11), zy_i g 9), ((u 12), zy_i g 9), ((u 13), zy_i g 9), ((u 14), .inr (1, [.ref (u 15), .ref (u 16), .ref (u 17), .int 0])), ((u 15), zy_i g 9), ((u 16), zy_i g 9), ((u 17), zy_i g 9), ((u 18), .inr (2, [.int 0])), ((u 19), .inr (5, [.ref (u 20), .ref (u 21), .ref (u 22), .int 0])), ((u 20), zy_i g 8), ((u 21), zy_i g 8), ((u 22), zy_i g 8), ((u 23), zy_q g 4 (zy_r [(u 24), (u 26), (u 28), (u 30)])), ((u 24), .inr (4, [.ref (u 25), .int 0, .int (-1)])), ((u 25), zy_i g 60), ((u 26), .inr (4, [.ref (u 27), .int 0, .int (-1)])), ((u 27), zy_i g 60), ((u 28), .inr (4, [.ref (u 29), .int 0, .int (-1)])), ((u 29), zy_i g 60), ((u 30), .inr (4, [.ref (u 31), .int 0, .int (-1)])), ((u 31), zy_i g 60), ((u 32), .inr (6, [.ref (u 0), .ref (u 5), .ref (u 33), .ref (u 34), .ref (u 35), .ref (u 36), .ref (u 37), .ref (u 38), .ref (u 10), .int 0, .int 0, .int (-1), .int (-1), .int (-1)])), ((u 33), zy_i g 192), ((u 34), zy_i g 24), ((u 35), zy_i g 24), ((u 36), zy_i g 24), ((u 37), zy_i g 576), ((u 38), zy_m g 9), ((u 39), .inr (6, [.ref (u 0), .ref (u 5), .ref (u 40), .ref (u 41), .ref (u 42), .ref (u 43), .ref (u 44), .ref (u 45), .ref (u 10), .int 0, .int 0, .int (-1), .int (-1), .int (-1)])), ((u 40), zy_i g 192), ((u 41), zy_i g 24), ((u 42), zy_i g 24), ((u 43), zy_i g 24), ((u 44), zy_i g 576), ((u 45), zy_m g 9), ((u 46), zy_i g 192), ((u 47), zy_i g 8), ((u 48), zy_l g 8)] := hD
  refine lv_astore_n (lv' := [(1, .ref q0), (0, .ref b)]) hx hb dL_law_7 rfl hl (by decide) rfl (fun ls hl => ?_)
  refine va_new (ci := 8) (fs := [.null, .null, .int 0, .null, .null, .int 0, .null, .null, .null, .int 0, .int 0, .null, .null, .null, .int 0, .int 0, .null, .null, .null, .int 0, .int 0, .int 0, .null, .null, .null, .null, .int 0, .null, .null, .null, .null, .null, .null, .null, .null, .null, .int 0]) (C := RX9) (T := TX9) (N := 37) hx hb hts zq_uw9 tyX9 tyX9_ok hown (hts _ zu_858) (hts _ zu_859) (hts _ zu_91) hK hP hD hS hA rfl zy_f9 (by decide +kernel) (by decide +kernel) dL_law_8 (fun q8 H hP hD hS => ?_)
  have hP : va_P g.1 vwCl [(q0, .inr (7, [.ref (u 0), .ref (u 5), .ref (u 10), .ref (u 14), .ref (u 18), .ref (u 19), .ref (u 23), .ref (u 32), .ref (u 39), .ref (u 46), .ref (u 47), .ref (u 48), .int 3, .int 0, .int 0, .int (-1), .int (-1)])), ((u 0), .inr (0, [.ref (u 1), .int 35, .int 3, .int 0, .int (-1), .int 0, .ref (u 2), .ref (u 3), .ref (u 4)])), ((u 1), zy_i g 35), ((u 2), zy_i g 12), ((u 3), zy_i g 12), ((u 4), zy_i g 8), ((u 5), .inr (3, [.ref (u 6), .int 31, .int 4, .int 0, .int (-1), .int 0, .ref (u 7), .ref (u 8), .ref (u 9)])), ((u 6), zy_i g 35), ((u 7), zy_i g 8), ((u 8), zy_i g 8), ((u 9), zy_i g 8), ((u 10), .inr (1, [.ref (u 11), .ref (u 12), .ref (u 13), .int 0])), ((u 11), zy_i g 9), ((u 12), zy_i g 9), ((u 13), zy_i g 9), ((u 14), .inr (1, [.ref (u 15), .ref (u 16), .ref (u 17), .int 0])), ((u 15), zy_i g 9), ((u 16), zy_i g 9), ((u 17), zy_i g 9), ((u 18), .inr (2, [.int 0])), ((u 19), .inr (5, [.ref (u 20), .ref (u 21), .ref (u 22), .int 0])), ((u 20), zy_i g 8), ((u 21), zy_i g 8), ((u 22), zy_i g 8), ((u 23), zy_q g 4 (zy_r [(u 24), (u 26), (u 28), (u 30)])), ((u 24), .inr (4, [.ref (u 25), .int 0, .int (-1)])), ((u 25), zy_i g 60), ((u 26), .inr (4, [.ref (u 27), .int 0, .int (-1)])), ((u 27), zy_i g 60), ((u 28), .inr (4, [.ref (u 29), .int 0, .int (-1)])), ((u 29), zy_i g 60), ((u 30), .inr (4, [.ref (u 31), .int 0, .int (-1)])), ((u 31), zy_i g 60), ((u 32), .inr (6, [.ref (u 0), .ref (u 5), .ref (u 33), .ref (u 34), .ref (u 35), .ref (u 36), .ref (u 37), .ref (u 38), .ref (u 10), .int 0, .int 0, .int (-1), .int (-1), .int (-1)])), ((u 33), zy_i g 192), ((u 34), zy_i g 24), ((u 35), zy_i g 24), ((u 36), zy_i g 24), ((u 37), zy_i g 576), ((u 38), zy_m g 9), ((u 39), .inr (6, [.ref (u 0), .ref (u 5), .ref (u 40), .ref (u 41), .ref (u 42), .ref (u 43), .ref (u 44), .ref (u 45), .ref (u 10), .int 0, .int 0, .int (-1), .int (-1), .int (-1)])), ((u 40), zy_i g 192), ((u 41), zy_i g 24), ((u 42), zy_i g 24), ((u 43), zy_i g 24), ((u 44), zy_i g 576), ((u 45), zy_m g 9), ((u 46), zy_i g 192), ((u 47), zy_i g 8), ((u 48), zy_l g 8), (q8, .inr (8, [.null, .null, .int 0, .null, .null, .int 0, .null, .null, .null, .int 0, .int 0, .null, .null, .null, .int 0, .int 0, .null, .null, .null, .int 0, .int 0, .int 0, .null, .null, .null, .null, .int 0, .null, .null, .null, .null, .null, .null, .null, .null, .null, .int 0]))] H := hP
  have hD : va_D (fun q : Nat => s.heap.size ≤ q) [(q0, .inr (7, [.ref (u 0), .ref (u 5), .ref (u 10), .ref (u 14), .ref (u 18), .ref (u 19), .ref (u 23), .ref (u 32), .ref (u 39), .ref (u 46), .ref (u 47), .ref (u 48), .int 3, .int 0, .int 0, .int (-1), .int (-1)])), ((u 0), .inr (0, [.ref (u 1), .int 35, .int 3, .int 0, .int (-1), .int 0, .ref (u 2), .ref (u 3), .ref (u 4)])), ((u 1), zy_i g 35), ((u 2), zy_i g 12), ((u 3), zy_i g 12), ((u 4), zy_i g 8), ((u 5), .inr (3, [.ref (u 6), .int 31, .int 4, .int 0, .int (-1), .int 0, .ref (u 7), .ref (u 8), .ref (u 9)])), ((u 6), zy_i g 35), ((u 7), zy_i g 8), ((u 8), zy_i g 8), ((u 9), zy_i g 8), ((u 10), .inr (1, [.ref (u 11), .ref (u 12), .ref (u 13), .int 0])), ((u 11), zy_i g 9), ((u 12), zy_i g 9), ((u 13), zy_i g 9), ((u 14), .inr (1, [.ref (u 15), .ref (u 16), .ref (u 17), .int 0])), ((u 15), zy_i g 9), ((u 16), zy_i g 9), ((u 17), zy_i g 9), ((u 18), .inr (2, [.int 0])), ((u 19), .inr (5, [.ref (u 20), .ref (u 21), .ref (u 22), .int 0])), ((u 20), zy_i g 8), ((u 21), zy_i g 8), ((u 22), zy_i g 8), ((u 23), zy_q g 4 (zy_r [(u 24), (u 26), (u 28), (u 30)])), ((u 24), .inr (4, [.ref (u 25), .int 0, .int (-1)])), ((u 25), zy_i g 60), ((u 26), .inr (4, [.ref (u 27), .int 0, .int (-1)])), ((u 27), zy_i g 60), ((u 28), .inr (4, [.ref (u 29), .int 0, .int (-1)])), ((u 29), zy_i g 60), ((u 30), .inr (4, [.ref (u 31), .int 0, .int (-1)])), ((u 31), zy_i g 60), ((u 32), .inr (6, [.ref (u 0), .ref (u 5), .ref (u 33), .ref (u 34), .ref (u 35), .ref (u 36), .ref (u 37), .ref (u 38), .ref (u 10), .int 0, .int 0, .int (-1), .int (-1), .int (-1)])), ((u 33), zy_i g 192), ((u 34), zy_i g 24), ((u 35), zy_i g 24), ((u 36), zy_i g 24), ((u 37), zy_i g 576), ((u 38), zy_m g 9), ((u 39), .inr (6, [.ref (u 0), .ref (u 5), .ref (u 40), .ref (u 41), .ref (u 42), .ref (u 43), .ref (u 44), .ref (u 45), .ref (u 10), .int 0, .int 0, .int (-1), .int (-1), .int (-1)])), ((u 40), zy_i g 192), ((u 41), zy_i g 24), ((u 42), zy_i g 24), ((u 43), zy_i g 24), ((u 44), zy_i g 576), ((u 45), zy_m g 9), ((u 46), zy_i g 192), ((u 47), zy_i g 8), ((u 48), zy_l g 8), (q8, .inr (8, [.null, .null, .int 0, .null, .null, .int 0, .null, .null, .null, .int 0, .int 0, .null, .null, .null, .int 0, .int 0, .null, .null, .null, .int 0, .int 0, .int 0, .null, .null, .null, .null, .int 0, .null, .null, .null, .null, .null, .null, .null, .null, .null, .int 0]))] := hD
  refine lv_dup hx hb dL_law_11 rfl ?_
  refine zy_callI (As := []) (rest := [.ref q8]) (n := 0) (wr := [(q0, .inr (7, [.ref (u 0), .ref (u 5), .ref (u 10), .ref (u 14), .ref (u 18), .ref (u 19), .ref (u 23), .ref (u 32), .ref (u 39), .ref (u 46), .ref (u 47), .ref (u 48), .int 3, .int 0, .int 0, .int (-1), .int (-1)])), ((u 0), .inr (0, [.ref (u 1), .int 35, .int 3, .int 0, .int (-1), .int 0, .ref (u 2), .ref (u 3), .ref (u 4)])), ((u 1), zy_i g 35), ((u 2), zy_i g 12), ((u 3), zy_i g 12), ((u 4), zy_i g 8), ((u 5), .inr (3, [.ref (u 6), .int 31, .int 4, .int 0, .int (-1), .int 0, .ref (u 7), .ref (u 8), .ref (u 9)])), ((u 6), zy_i g 35), ((u 7), zy_i g 8), ((u 8), zy_i g 8), ((u 9), zy_i g 8), ((u 10), .inr (1, [.ref (u 11), .ref (u 12), .ref (u 13), .int 0])), ((u 11), zy_i g 9), ((u 12), zy_i g 9), ((u 13), zy_i g 9), ((u 14), .inr (1, [.ref (u 15), .ref (u 16), .ref (u 17), .int 0])), ((u 15), zy_i g 9), ((u 16), zy_i g 9), ((u 17), zy_i g 9), ((u 18), .inr (2, [.int 0])), ((u 19), .inr (5, [.ref (u 20), .ref (u 21), .ref (u 22), .int 0])), ((u 20), zy_i g 8), ((u 21), zy_i g 8), ((u 22), zy_i g 8), ((u 23), zy_q g 4 (zy_r [(u 24), (u 26), (u 28), (u 30)])), ((u 24), .inr (4, [.ref (u 25), .int 0, .int (-1)])), ((u 25), zy_i g 60), ((u 26), .inr (4, [.ref (u 27), .int 0, .int (-1)])), ((u 27), zy_i g 60), ((u 28), .inr (4, [.ref (u 29), .int 0, .int (-1)])), ((u 29), zy_i g 60), ((u 30), .inr (4, [.ref (u 31), .int 0, .int (-1)])), ((u 31), zy_i g 60), ((u 32), .inr (6, [.ref (u 0), .ref (u 5), .ref (u 33), .ref (u 34), .ref (u 35), .ref (u 36), .ref (u 37), .ref (u 38), .ref (u 10), .int 0, .int 0, .int (-1), .int (-1), .int (-1)])), ((u 33), zy_i g 192), ((u 34), zy_i g 24), ((u 35), zy_i g 24), ((u 36), zy_i g 24), ((u 37), zy_i g 576), ((u 38), zy_m g 9), ((u 39), .inr (6, [.ref (u 0), .ref (u 5), .ref (u 40), .ref (u 41), .ref (u 42), .ref (u 43), .ref (u 44), .ref (u 45), .ref (u 10), .int 0, .int 0, .int (-1), .int (-1), .int (-1)])), ((u 40), zy_i g 192), ((u 41), zy_i g 24), ((u 42), zy_i g 24), ((u 43), zy_i g 24), ((u 44), zy_i g 576), ((u 45), zy_m g 9), ((u 46), zy_i g 192), ((u 47), zy_i g 8), ((u 48), zy_l g 8)]) hx hb hml hown hts hK hN hP hD hS hA (zy_X9_init l g q8 _) [50] [0, 1, 2, 3, 4, 5, 6, 7, 8, 9, 10, 11, 12, 13, 14, 15, 16, 17, 18, 19, 20, 21, 22, 23, 24, 25, 26, 27, 28, 29, 30, 31, 32, 33, 34, 35, 36, 37, 38, 39, 40, 41, 42, 43, 44, 45, 46, 47, 48, 49] rfl rfl rfl rfl (by decide) zu_91 zu_860 zu_861 zu_862 rfl (by decide +kernel) ⟨rfl, rfl⟩ ⟨(Nat.le_of_ble_eq_true rfl), (Nat.le_of_ble_eq_true rfl)⟩ rfl hl.1 (lv_room (Nat.le_of_ble_eq_true rfl)) dL_law_12 ⟨(by decide +kernel), (by decide +kernel)⟩ (fun v H locs hP hD hS => ?_)
  have hP : va_P g.1 vwCl (zy_all g q0 q8 u v (zy_r [(u 24), (u 26), (u 28), (u 30)])) H := hP
  have hD : va_D (fun q : Nat => s.heap.size ≤ q) (zy_all g q0 q8 u v (zy_r [(u 24), (u 26), (u 28), (u 30)])) := hD
  refine lv_astore_n (lv' := [(2, .ref q8), (1, .ref q0), (0, .ref b)]) hx hb dL_law_15 rfl hl (by decide) rfl (fun ls hl => ?_)
  have hP : va_P g.1 vwCl (zy_all g q0 q8 u v (fun j => some (zy_ad q0 q8 b u v ([25, 27, 29, 31].getD j 0)))) H := zy_refs (f' := fun j => some (zy_ad q0 q8 b u v ([25, 27, 29, 31].getD j 0))) 24 hP rfl (fun j hj => by rcases (show j = 0 ∨ j = 1 ∨ j = 2 ∨ j = 3 by omega) with rfl | rfl | rfl | rfl <;> rfl)
  have hD : va_D (fun q : Nat => s.heap.size ≤ q) (zy_all g q0 q8 u v (fun j => some (zy_ad q0 q8 b u v ([25, 27, 29, 31].getD j 0)))) := hD.set (p := 24) (e := zy_q g 4 (fun j => some (zy_ad q0 q8 b u v ([25, 27, 29, 31].getD j 0)))) rfl
  subst hg
  rw [← zy_ws D cA (L, xs) q0 q8 b u v] at hP hD
  refine W.widen (k := 77) (n := 4940) (Nat.le_of_ble_eq_true rfl) (Nat.le_of_ble_eq_true rfl) ?_
  refine va_forget hS.2.2 ?_
  exact zy_fin l hL C0 hts hK0 hdk hP hD ⟨hS.1, hS.2.1, fun _ h => by cases h⟩ (zy_go hL) rfl rfl rfl rfl (lv_sub hl [2, 1, 0] rfl)
set_option maxHeartbeats 4000000 in
theorem lw_walk (l : Launch) (hflags : l.flags = flags0) (b : Addr) (xs : List Int32) : MetFree l x (headSpec (Jvm.Cond.code x code maxLocals ret :: tables_1) room_1) (lw_P b xs) (fun _ _ _ _ _ => True) lw_Q := by
  refine MetFree.of_bodyS (code := code) (maxLocals := maxLocals) (ret := ret) (by decide) ?_ ?_
  · intro args s m h hn
    obtain ⟨meth, c, h1, h2, h3, h4, h5, h6, -, -⟩ := Cond.code_spec hn (atoms_spec (ws := Jvm.Cond.code x code maxLocals ret :: tables_1) h _ List.mem_cons_self)
    exact ⟨meth, c, h1, h2, h3, h4, h5, h6⟩
  · intro p e s m args below meth c s₁ B hml0 hP _
    obtain ⟨rfl, hx, hbd, hgv⟩ := hP
    obtain ⟨scr, harrAt, hlist, hof, hsmall⟩ := hx
    obtain ⟨hcb, hkn, -, -⟩ := State.arrayAt?_spec harrAt
    have hown : s.vm.findClass R_law = some m.cls := findClass_of_methodNamed B.named
    have hts0 : ∀ c ∈ (Jvm.Cond.code x code maxLocals ret :: tables_1), c.before #[Value.ref b] s = true := atoms_spec (ws := Jvm.Cond.code x code maxLocals ret :: tables_1) B.pre
    have hts : ∀ w ∈ lw_tbl, w.before #[Value.ref b] s = true := k2_hts_sels lw_privs (fun w hw => hts0 w (List.mem_cons_of_mem _ hw)) lw_privs_ok
    have hml : c.maxLocals = 4 := B.maxLocals_eq (hts0 _ List.mem_cons_self)
    have X₀ : Stand p l e room_1 s m #[Value.ref b] below meth c s₁ [] 0 0 := Stand.of_body B
    have hh0 : s₁.heap = s.heap := by rw [B.state]; rfl
    have hsz : scr.slots.size = xs.length := by rw [← Array.length_toList, hlist, List.length_map]
    have hval : ∀ j : Nat, j < xs.length → scr.slots[j]? = some (.int (xs.getD j 0)) := fun j hj => by
      rw [← Array.getElem?_toList, hlist]
      simp [hj]
    have hbl : b < s.heap.size := (Array.getElem?_eq_some_iff.mp hcb).1
    have hX : va_X b xs.length (fun j => xs.getD j 0) s s.heap := ⟨scr, hcb, hof, hkn, hsz, hval⟩
    have K : W p l e room_1 s m #[Value.ref b] below meth c s₁.heap [] 0 0 (lw_Z below #[Value.ref b] s) (entryFrame m ([Value.ref b] : List Value).toArray 4) := by
      rw [hh0]
      exact whole_start l hflags hbd ⟨B.exec, B.bytes, B.returns, hml, hown, hts, hX, hbl, B.notSynchronized, hgv⟩
    obtain ⟨t, a1, o, b1, b2, b3⟩ := K s₁ rfl X₀
    exact ⟨t, o, a1, b1, b2, b3⟩
theorem lw_pre_spec {args : Array Value} {s : State} (h : (Jvm.Cond.and given_1 narrow_1).before args s = true) (hr : rest_1_c.before args s = true) : ∃ (b : Addr) (xs : List Int32), lw_P b xs args s := by
  have hs := flat_of_before _ h
  have hq := flat_of_before _ hr
  have hc : (Cond.count 1).before args s = true := hs _ (by decide +kernel)
  have harr : (Cond.arrayOf (.arg 0) .int).before args s = true := hs _ (by decide +kernel)
  have hle : (Cond.le (.length (.arg 0)) (.int 384)).before args s = true := hs _ (by decide +kernel)
  have hlen : (Cond.isInt (.length (.arg 0))).before args s = true := hq _ (by decide +kernel)
  have hall : (Cond.all (.arg 0) (.isInt (.elem (.arg 0) (.index 0)))).before args s = true := hq _ (by decide +kernel)
  obtain ⟨b, xs, hb, hx⟩ := State.ints_of_pre rfl harr hlen hall
  have hsm : xs.length < 2 ^ 31 := hx.choose_spec.2.2.2
  have hev : (Term.length (.arg 0)).eval args s none [] s = some (.int xs.length.toInt32) := hx.length_eval hb
  have hv := Cond.le_ints hev (show (Term.int 384).eval args s none [] s = some (.int 384) from rfl)
  have hd : xs.length.toInt32 ≤ 384 := by
    simpa [Cond.before, Cond.holds, hv] using hle
  have hN : xs.length ≤ 384 := (Int32.ofNat_le_ofNat hsm (by decide)).mp (show Int32.ofNat xs.length ≤ Int32.ofNat 384 from hd)
  exact ⟨b, xs, Cond.one_arg hc (show args[0]? = some (.ref b) from hb), hx, hN, h⟩
theorem lw_comes (l : Launch) (hflags : l.flags = flags0) : Comes l x (Jvm.Cond.code x code maxLocals ret :: tables_1) room_1 (fun tb e args s => Calls_1 tb e args s ∧ rest_1 tb e args s ∧ Pre_1 tb e args s)
    (fun _ _ args s o t => lw_Q args s o t) := by
  intro p e ha hc hk s m args below hf hfit hheap happ hpre
  obtain ⟨b, xs, hP⟩ := lw_pre_spec hpre.2.2 hpre.2.1
  obtain ⟨k, o, h1, h2, h3, hQ⟩ := lw_walk l hflags b xs p e ha hc hk s m args below hf ((Spec.applies_iff_loose hf).mp happ).1 hP trivial
  exact ⟨k, o, h1, h2, h3, hQ⟩
theorem lw_frame {s t : State} {o : Outcome} {args : Array Value} (h : Framed s o t [] 600000 7302250) :
    Framed s o t (fieldLocs frame_1_writes args s ++ arrayLocs frame_1_arrays args s ++ staticLocs frame_1_statics s) 600000 7302250 := h
theorem lw_limb (L : Cond) (hL : ∀ (args : Array Value) (s t : State), L.after args s (.returned (some (.int 1))) t = true) :
    ArmFor flags0 classFile x code maxLocals ret World_1 tables_1 room_1 Calls_1 rest_1 Pre_1
      (fun tb e a s o t => postC L tb e a s o t ∧ Framed s o t (fieldLocs frame_1_writes a s ++ arrayLocs frame_1_arrays a s ++ staticLocs frame_1_statics s) 600000 7302250) := by
  intro l hflags _ _ p e ha hc hk s m args below hf hfit hheap happ hpre
  obtain ⟨k, o, h1, h2, h3, rfl, hF⟩ := lw_comes l hflags p e ha hc hk s m args below hf hfit hheap happ hpre
  exact ⟨k, _, h1, h2, h3, hL args s _, lw_frame hF⟩
theorem i_vc : Claimed_1_1 ∧ Claimed_1_2 := ⟨lw_limb limb_1_1 (fun args s t => by simp [limb_1_1, Cond.after, Cond.holds, Cond.value]), lw_limb limb_1_2 (fun args s t => Cond.after_iff.mpr (by
  first | (rw [show limb_1_2 = Cond.eq .result (.int 1) from rfl, Cond.eq_ints (x := 1) (y := 1) rfl rfl]; simp; done) | (simp [limb_1_2, Cond.value, Term.eval]; done)))⟩
