def zq_push (pc' : Nat) (v : Value) : zq_Op := fun lo st μ => some ([], pc', lo, v :: st, μ)
theorem zq_s_iconst {cc : ByteArray} {nL : Nat} {own : String} {rf rl pc : Nat} {n : Int} {v : Int32} (hdg : decode cc pc = .ok (.iconst n, 1)) (hv : Int32.ofInt n = v) : zq_snd cc nL own rf rl pc (zq_push (pc + 1) (.int v)) := by
  intro g p l e R s m args below meth c H locs cells slots Z ls lo st μ P pc' lo' st' μ' hC hS hf hP k
  obtain ⟨hx, hb, hml, hown, hts, hK, hX, hbl, hJ, hrf, hrl, hce, hsl, hdk⟩ := hC
  obtain ⟨hW, hH, hL, hsc⟩ := hS
  cases hf
  exact lv_iconst hx hb hdg hv (k H locs ls ⟨hW, hH, hL, hsc⟩)
theorem zq_s_bipush {cc : ByteArray} {nL : Nat} {own : String} {rf rl pc : Nat} {n : Int} {v : Int32} (hdg : decode cc pc = .ok (.bipush n, 2)) (hv : (Int8.ofInt n).toInt32 = v) : zq_snd cc nL own rf rl pc (zq_push (pc + 2) (.int v)) := by
  intro g p l e R s m args below meth c H locs cells slots Z ls lo st μ P pc' lo' st' μ' hC hS hf hP k
  obtain ⟨hx, hb, hml, hown, hts, hK, hX, hbl, hJ, hrf, hrl, hce, hsl, hdk⟩ := hC
  obtain ⟨hW, hH, hL, hsc⟩ := hS
  cases hf
  exact lv_bipush hx hb hdg hv (k H locs ls ⟨hW, hH, hL, hsc⟩)
theorem zq_s_sipush {cc : ByteArray} {nL : Nat} {own : String} {rf rl pc : Nat} {n : Int} {v : Int32} (hdg : decode cc pc = .ok (.sipush n, 3)) (hv : (Int16.ofInt n).toInt32 = v) : zq_snd cc nL own rf rl pc (zq_push (pc + 3) (.int v)) := by
  intro g p l e R s m args below meth c H locs cells slots Z ls lo st μ P pc' lo' st' μ' hC hS hf hP k
  obtain ⟨hx, hb, hml, hown, hts, hK, hX, hbl, hJ, hrf, hrl, hce, hsl, hdk⟩ := hC
  obtain ⟨hW, hH, hL, hsc⟩ := hS
  cases hf
  exact lv_sipush hx hb hdg hv (k H locs ls ⟨hW, hH, hL, hsc⟩)
theorem zq_s_lconst {cc : ByteArray} {nL : Nat} {own : String} {rf rl pc : Nat} {n : Fin 2} {v : Int64} (hdg : decode cc pc = .ok (.lconst n, 1)) (hv : Int64.ofNat (n : Nat) = v) : zq_snd cc nL own rf rl pc (zq_push (pc + 1) (.long v)) := by
  intro g p l e R s m args below meth c H locs cells slots Z ls lo st μ P pc' lo' st' μ' hC hS hf hP k
  obtain ⟨hx, hb, hml, hown, hts, hK, hX, hbl, hJ, hrf, hrl, hce, hsl, hdk⟩ := hC
  obtain ⟨hW, hH, hL, hsc⟩ := hS
  cases hf
  exact lv_lconst hx hb hdg hv (k H locs ls ⟨hW, hH, hL, hsc⟩)
theorem zq_s_ldc {cc : ByteArray} {nL : Nat} {own : String} {rf rl pc : Nat} {index : Nat} {v : Int32} (hdg : decode cc pc = .ok (.ldc index, 2)) (hw : Cond.constant own index v ∈ zq_W) : zq_snd cc nL own rf rl pc (zq_push (pc + 2) (.int v)) := by
  intro g p l e R s m args below meth c H locs cells slots Z ls lo st μ P pc' lo' st' μ' hC hS hf hP k
  obtain ⟨hx, hb, hml, hown, hts, hK, hX, hbl, hJ, hrf, hrl, hce, hsl, hdk⟩ := hC
  obtain ⟨hW, hH, hL, hsc⟩ := hS
  cases hf
  exact lv_ldc hx hb hown (hts _ hw) hdg (k H locs ls ⟨hW, hH, hL, hsc⟩)
theorem zq_s_ldcw {cc : ByteArray} {nL : Nat} {own : String} {rf rl pc : Nat} {index : Nat} {v : Int32} (hdg : decode cc pc = .ok (.ldc_w index, 3)) (hw : Cond.constant own index v ∈ zq_W) : zq_snd cc nL own rf rl pc (zq_push (pc + 3) (.int v)) := by
  intro g p l e R s m args below meth c H locs cells slots Z ls lo st μ P pc' lo' st' μ' hC hS hf hP k
  obtain ⟨hx, hb, hml, hown, hts, hK, hX, hbl, hJ, hrf, hrl, hce, hsl, hdk⟩ := hC
  obtain ⟨hW, hH, hL, hsc⟩ := hS
  cases hf
  exact lv_ldcw hx hb hown (hts _ hw) hdg (k H locs ls ⟨hW, hH, hL, hsc⟩)
theorem zq_s_ldc2 {cc : ByteArray} {nL : Nat} {own : String} {rf rl pc : Nat} {index : Nat} {v : Int64} (hdg : decode cc pc = .ok (.ldc2_w index, 3)) (hw : Cond.constantLong own index v ∈ zq_W) : zq_snd cc nL own rf rl pc (zq_push (pc + 3) (.long v)) := by
  intro g p l e R s m args below meth c H locs cells slots Z ls lo st μ P pc' lo' st' μ' hC hS hf hP k
  obtain ⟨hx, hb, hml, hown, hts, hK, hX, hbl, hJ, hrf, hrl, hce, hsl, hdk⟩ := hC
  obtain ⟨hW, hH, hL, hsc⟩ := hS
  cases hf
  exact lv_ldc2 hx hb hown (hts _ hw) hdg (k H locs ls ⟨hW, hH, hL, hsc⟩)
theorem zq_s_null {cc : ByteArray} {nL : Nat} {own : String} {rf rl pc : Nat}  (hdg : decode cc pc = .ok (.aconst_null, 1))  : zq_snd cc nL own rf rl pc (zq_push (pc + 1) (.null)) := by
  intro g p l e R s m args below meth c H locs cells slots Z ls lo st μ P pc' lo' st' μ' hC hS hf hP k
  obtain ⟨hx, hb, hml, hown, hts, hK, hX, hbl, hJ, hrf, hrl, hce, hsl, hdk⟩ := hC
  obtain ⟨hW, hH, hL, hsc⟩ := hS
  cases hf
  exact lv_null hx hb hdg (k H locs ls ⟨hW, hH, hL, hsc⟩)
def zq_il (pc' i : Nat) : zq_Op := fun lo st μ => match zq_lk i lo with
  | some (.int x) => some ([], pc', lo, .int x :: st, μ)
  | _ => none
def zq_ll (pc' i : Nat) : zq_Op := fun lo st μ => match zq_lk i lo with
  | some (.long x) => some ([], pc', lo, .long x :: st, μ)
  | _ => none
def zq_al (pc' i : Nat) : zq_Op := fun lo st μ => match zq_lk i lo with
  | some (.ref x) => some ([], pc', lo, .ref x :: st, μ)
  | some .null => some ([], pc', lo, .null :: st, μ)
  | _ => none
theorem zq_s_iload_n {cc : ByteArray} {nL : Nat} {own : String} {rf rl pc : Nat} {n : Fin 4} {i : Nat} (hdg : decode cc pc = .ok (.iload_n n, 1)) (hi : (n : Nat) = i) : zq_snd cc nL own rf rl pc (zq_il (pc + 1) i) := by
  intro g p l e R s m args below meth c H locs cells slots Z ls lo st μ P pc' lo' st' μ' hC hS hf hP k
  obtain ⟨hx, hb, hml, hown, hts, hK, hX, hbl, hJ, hrf, hrl, hce, hsl, hdk⟩ := hC
  obtain ⟨hW, hH, hL, hsc⟩ := hS
  unfold zq_il at hf
  split at hf
  · rename_i x hk
    cases hf
    exact lv_iload_n hx hb hdg hi (zq_lv hL hk) (k H locs ls ⟨hW, hH, hL, hsc⟩)
  · cases hf
theorem zq_s_iload {cc : ByteArray} {nL : Nat} {own : String} {rf rl pc : Nat} {i : Nat} (hdg : decode cc pc = .ok (.iload i, 2)) : zq_snd cc nL own rf rl pc (zq_il (pc + 2) i) := by
  intro g p l e R s m args below meth c H locs cells slots Z ls lo st μ P pc' lo' st' μ' hC hS hf hP k
  obtain ⟨hx, hb, hml, hown, hts, hK, hX, hbl, hJ, hrf, hrl, hce, hsl, hdk⟩ := hC
  obtain ⟨hW, hH, hL, hsc⟩ := hS
  unfold zq_il at hf
  split at hf
  · rename_i x hk
    cases hf
    exact lv_iload hx hb hdg (zq_lv hL hk) (k H locs ls ⟨hW, hH, hL, hsc⟩)
  · cases hf
theorem zq_s_lload_n {cc : ByteArray} {nL : Nat} {own : String} {rf rl pc : Nat} {n : Fin 4} {i : Nat} (hdg : decode cc pc = .ok (.lload_n n, 1)) (hi : (n : Nat) = i) : zq_snd cc nL own rf rl pc (zq_ll (pc + 1) i) := by
  intro g p l e R s m args below meth c H locs cells slots Z ls lo st μ P pc' lo' st' μ' hC hS hf hP k
  obtain ⟨hx, hb, hml, hown, hts, hK, hX, hbl, hJ, hrf, hrl, hce, hsl, hdk⟩ := hC
  obtain ⟨hW, hH, hL, hsc⟩ := hS
  unfold zq_ll at hf
  split at hf
  · rename_i x hk
    cases hf
    exact lv_lload_n hx hb hdg hi (zq_lv hL hk) (k H locs ls ⟨hW, hH, hL, hsc⟩)
  · cases hf
theorem zq_s_lload {cc : ByteArray} {nL : Nat} {own : String} {rf rl pc : Nat} {i : Nat} (hdg : decode cc pc = .ok (.lload i, 2)) : zq_snd cc nL own rf rl pc (zq_ll (pc + 2) i) := by
  intro g p l e R s m args below meth c H locs cells slots Z ls lo st μ P pc' lo' st' μ' hC hS hf hP k
  obtain ⟨hx, hb, hml, hown, hts, hK, hX, hbl, hJ, hrf, hrl, hce, hsl, hdk⟩ := hC
  obtain ⟨hW, hH, hL, hsc⟩ := hS
  unfold zq_ll at hf
  split at hf
  · rename_i x hk
    cases hf
    exact lv_lload hx hb hdg (zq_lv hL hk) (k H locs ls ⟨hW, hH, hL, hsc⟩)
  · cases hf
theorem zq_s_aload_n {cc : ByteArray} {nL : Nat} {own : String} {rf rl pc : Nat} {n : Fin 4} {i : Nat} (hdg : decode cc pc = .ok (.aload_n n, 1)) (hi : (n : Nat) = i) : zq_snd cc nL own rf rl pc (zq_al (pc + 1) i) := by
  intro g p l e R s m args below meth c H locs cells slots Z ls lo st μ P pc' lo' st' μ' hC hS hf hP k
  obtain ⟨hx, hb, hml, hown, hts, hK, hX, hbl, hJ, hrf, hrl, hce, hsl, hdk⟩ := hC
  obtain ⟨hW, hH, hL, hsc⟩ := hS
  unfold zq_al at hf
  split at hf
  · rename_i x hk
    cases hf
    exact lv_aload_n hx hb hdg hi (zq_lv hL hk) (k H locs ls ⟨hW, hH, hL, hsc⟩)
  · rename_i hk
    cases hf
    exact lv_aload_nN hx hb hdg hi (zq_lv hL hk) (k H locs ls ⟨hW, hH, hL, hsc⟩)
  · cases hf
theorem zq_s_aload {cc : ByteArray} {nL : Nat} {own : String} {rf rl pc : Nat} {i : Nat} (hdg : decode cc pc = .ok (.aload i, 2)) : zq_snd cc nL own rf rl pc (zq_al (pc + 2) i) := by
  intro g p l e R s m args below meth c H locs cells slots Z ls lo st μ P pc' lo' st' μ' hC hS hf hP k
  obtain ⟨hx, hb, hml, hown, hts, hK, hX, hbl, hJ, hrf, hrl, hce, hsl, hdk⟩ := hC
  obtain ⟨hW, hH, hL, hsc⟩ := hS
  unfold zq_al at hf
  split at hf
  · rename_i x hk
    cases hf
    exact lv_aload hx hb hdg (zq_lv hL hk) (k H locs ls ⟨hW, hH, hL, hsc⟩)
  · rename_i hk
    cases hf
    exact lv_aloadN hx hb hdg (zq_lv hL hk) (k H locs ls ⟨hW, hH, hL, hsc⟩)
  · cases hf
def zq_is (pc' i : Nat) : zq_Op := fun lo st μ => match st with
  | .int x :: r => some ([], pc', zq_st1 i (.int x) lo, r, μ)
  | _ => none
def zq_lst (pc' i : Nat) : zq_Op := fun lo st μ => match st with
  | .long x :: r => some ([], pc', zq_st2 i (.long x) lo, r, μ)
  | _ => none
def zq_as (pc' i : Nat) : zq_Op := fun lo st μ => match st with
  | .ref x :: r => some ([], pc', zq_st1 i (.ref x) lo, r, μ)
  | .null :: r => some ([], pc', zq_st1 i .null lo, r, μ)
  | _ => none
theorem zq_s_istore_n {cc : ByteArray} {nL : Nat} {own : String} {rf rl pc : Nat} {n : Fin 4} {i : Nat} (hdg : decode cc pc = .ok (.istore_n n, 1)) (hi : (n : Nat) = i) (hn : i < nL) : zq_snd cc nL own rf rl pc (zq_is (pc + 1) i) := by
  intro g p l e R s m args below meth c H locs cells slots Z ls lo st μ P pc' lo' st' μ' hC hS hf hP k
  obtain ⟨hx, hb, hml, hown, hts, hK, hX, hbl, hJ, hrf, hrl, hce, hsl, hdk⟩ := hC
  obtain ⟨hW, hH, hL, hsc⟩ := hS
  unfold zq_is at hf
  split at hf
  · cases hf
    refine lv_istore_n hx hb hdg hi hL hn rfl (fun ls' h => ?_)
    exact k H locs ls' ⟨hW, hH, zq_has1 (v := .int _) h, hsc⟩
  · cases hf
theorem zq_s_istore {cc : ByteArray} {nL : Nat} {own : String} {rf rl pc : Nat} {i : Nat} (hdg : decode cc pc = .ok (.istore i, 2)) (hn : i < nL) : zq_snd cc nL own rf rl pc (zq_is (pc + 2) i) := by
  intro g p l e R s m args below meth c H locs cells slots Z ls lo st μ P pc' lo' st' μ' hC hS hf hP k
  obtain ⟨hx, hb, hml, hown, hts, hK, hX, hbl, hJ, hrf, hrl, hce, hsl, hdk⟩ := hC
  obtain ⟨hW, hH, hL, hsc⟩ := hS
  unfold zq_is at hf
  split at hf
  · cases hf
    refine lv_istore hx hb hdg hL hn rfl (fun ls' h => ?_)
    exact k H locs ls' ⟨hW, hH, zq_has1 (v := .int _) h, hsc⟩
  · cases hf
theorem zq_s_lstore_n {cc : ByteArray} {nL : Nat} {own : String} {rf rl pc : Nat} {n : Fin 4} {i : Nat} (hdg : decode cc pc = .ok (.lstore_n n, 1)) (hi : (n : Nat) = i) (hn : i + 1 < nL) : zq_snd cc nL own rf rl pc (zq_lst (pc + 1) i) := by
  intro g p l e R s m args below meth c H locs cells slots Z ls lo st μ P pc' lo' st' μ' hC hS hf hP k
  obtain ⟨hx, hb, hml, hown, hts, hK, hX, hbl, hJ, hrf, hrl, hce, hsl, hdk⟩ := hC
  obtain ⟨hW, hH, hL, hsc⟩ := hS
  unfold zq_lst at hf
  split at hf
  · cases hf
    refine lv_lstore_n hx hb hdg hi hL hn rfl (fun ls' h => ?_)
    exact k H locs ls' ⟨hW, hH, zq_has2 (v := .long _) h, hsc⟩
  · cases hf
theorem zq_s_lstore {cc : ByteArray} {nL : Nat} {own : String} {rf rl pc : Nat} {i : Nat} (hdg : decode cc pc = .ok (.lstore i, 2)) (hn : i + 1 < nL) : zq_snd cc nL own rf rl pc (zq_lst (pc + 2) i) := by
  intro g p l e R s m args below meth c H locs cells slots Z ls lo st μ P pc' lo' st' μ' hC hS hf hP k
  obtain ⟨hx, hb, hml, hown, hts, hK, hX, hbl, hJ, hrf, hrl, hce, hsl, hdk⟩ := hC
  obtain ⟨hW, hH, hL, hsc⟩ := hS
  unfold zq_lst at hf
  split at hf
  · cases hf
    refine lv_lstore hx hb hdg hL hn rfl (fun ls' h => ?_)
    exact k H locs ls' ⟨hW, hH, zq_has2 (v := .long _) h, hsc⟩
  · cases hf
theorem zq_s_astore_n {cc : ByteArray} {nL : Nat} {own : String} {rf rl pc : Nat} {n : Fin 4} {i : Nat} (hdg : decode cc pc = .ok (.astore_n n, 1)) (hi : (n : Nat) = i) (hn : i < nL) : zq_snd cc nL own rf rl pc (zq_as (pc + 1) i) := by
  intro g p l e R s m args below meth c H locs cells slots Z ls lo st μ P pc' lo' st' μ' hC hS hf hP k
  obtain ⟨hx, hb, hml, hown, hts, hK, hX, hbl, hJ, hrf, hrl, hce, hsl, hdk⟩ := hC
  obtain ⟨hW, hH, hL, hsc⟩ := hS
  unfold zq_as at hf
  split at hf
  · cases hf
    refine lv_astore_n hx hb hdg hi hL hn rfl (fun ls' h => ?_)
    exact k H locs ls' ⟨hW, hH, zq_has1 (v := .ref _) h, hsc⟩
  · cases hf
    refine lv_astore_nN hx hb hdg hi hL hn rfl (fun ls' h => ?_)
    exact k H locs ls' ⟨hW, hH, zq_has1 (v := .null) h, hsc⟩
  · cases hf
theorem zq_s_astore {cc : ByteArray} {nL : Nat} {own : String} {rf rl pc : Nat} {i : Nat} (hdg : decode cc pc = .ok (.astore i, 2)) (hn : i < nL) : zq_snd cc nL own rf rl pc (zq_as (pc + 2) i) := by
  intro g p l e R s m args below meth c H locs cells slots Z ls lo st μ P pc' lo' st' μ' hC hS hf hP k
  obtain ⟨hx, hb, hml, hown, hts, hK, hX, hbl, hJ, hrf, hrl, hce, hsl, hdk⟩ := hC
  obtain ⟨hW, hH, hL, hsc⟩ := hS
  unfold zq_as at hf
  split at hf
  · cases hf
    refine lv_astore hx hb hdg hL hn rfl (fun ls' h => ?_)
    exact k H locs ls' ⟨hW, hH, zq_has1 (v := .ref _) h, hsc⟩
  · cases hf
    refine lv_astoreN hx hb hdg hL hn rfl (fun ls' h => ?_)
    exact k H locs ls' ⟨hW, hH, zq_has1 (v := .null) h, hsc⟩
  · cases hf
def zq_inc (pc' i : Nat) (n : Int32) : zq_Op := fun lo st μ => match zq_lk i lo with
  | some (.int x) => some ([], pc', zq_st1 i (.int (x + n)) lo, st, μ)
  | _ => none
theorem zq_s_iinc {cc : ByteArray} {nL : Nat} {own : String} {rf rl pc : Nat} {i : Nat} {n : Int} {v : Int32} (hdg : decode cc pc = .ok (.iinc i n, 3)) (hv : Int32.ofInt n = v) (hn : i < nL) : zq_snd cc nL own rf rl pc (zq_inc (pc + 3) i v) := by
  intro g p l e R s m args below meth c H locs cells slots Z ls lo st μ P pc' lo' st' μ' hC hS hf hP k
  obtain ⟨hx, hb, hml, hown, hts, hK, hX, hbl, hJ, hrf, hrl, hce, hsl, hdk⟩ := hC
  obtain ⟨hW, hH, hL, hsc⟩ := hS
  unfold zq_inc at hf
  split at hf
  · rename_i x hk
    cases hf
    subst hv
    have hm : (i, zq_cv g (.int x)) ∈ zq_ml g lo := List.mem_map.mpr ⟨(i, .int x), zq_lk_mem hk, rfl⟩
    obtain ⟨j, hj⟩ := List.getElem?_of_mem hm
    refine lv_iinc hx hb hdg hL hj rfl hn rfl (fun ls' h => ?_)
    exact k H locs ls' ⟨hW, hH, zq_has1 (v := .int _) h, hsc⟩
  · cases hf
def zq_i2 (pc' : Nat) (f : Int32 → Int32 → Int32) : zq_Op := fun lo st μ => match st with
  | .int y :: .int x :: r => some ([], pc', lo, .int (f x y) :: r, μ)
  | _ => none
def zq_i2c (pc' : Nat) (f : Int32 → Int32 → Int32) : zq_Op := fun lo st μ => match st with
  | .int y :: .int x :: r => some ([¬ y = 0], pc', lo, .int (f x y) :: r, μ)
  | _ => none
def zq_i1 (pc' : Nat) (f : Int32 → Int32) : zq_Op := fun lo st μ => match st with
  | .int x :: r => some ([], pc', lo, .int (f x) :: r, μ)
  | _ => none
def zq_l2 (pc' : Nat) (f : Int64 → Int64 → Int64) : zq_Op := fun lo st μ => match st with
  | .long y :: .long x :: r => some ([], pc', lo, .long (f x y) :: r, μ)
  | _ => none
def zq_l2c (pc' : Nat) (f : Int64 → Int64 → Int64) : zq_Op := fun lo st μ => match st with
  | .long y :: .long x :: r => some ([¬ y = 0], pc', lo, .long (f x y) :: r, μ)
  | _ => none
def zq_lsf (pc' : Nat) (f : Int64 → Int32 → Int64) : zq_Op := fun lo st μ => match st with
  | .int y :: .long x :: r => some ([], pc', lo, .long (f x y) :: r, μ)
  | _ => none
def zq_i2l (pc' : Nat) : zq_Op := fun lo st μ => match st with
  | .int x :: r => some ([], pc', lo, .long x.toInt64 :: r, μ)
  | _ => none
def zq_lcmp (pc' : Nat) : zq_Op := fun lo st μ => match st with
  | .long y :: .long x :: r => some ([], pc', lo, .int (lg_cmp x y) :: r, μ)
  | _ => none
def zq_dup (pc' : Nat) : zq_Op := fun lo st μ => match st with
  | .int x :: r => some ([], pc', lo, .int x :: .int x :: r, μ)
  | .ref x :: r => some ([], pc', lo, .ref x :: .ref x :: r, μ)
  | _ => none
def zq_dup2 (pc' : Nat) : zq_Op := fun lo st μ => match st with
  | .int x :: .ref a :: r => some ([], pc', lo, .int x :: .ref a :: .int x :: .ref a :: r, μ)
  | _ => none
theorem zq_s_iadd {cc : ByteArray} {nL : Nat} {own : String} {rf rl pc : Nat}  (hdg : decode cc pc = .ok (.iadd, 1))  : zq_snd cc nL own rf rl pc (zq_i2 (pc + 1) (fun x y => x + y)) := by
  intro g p l e R s m args below meth c H locs cells slots Z ls lo st μ P pc' lo' st' μ' hC hS hf hP k
  obtain ⟨hx, hb, hml, hown, hts, hK, hX, hbl, hJ, hrf, hrl, hce, hsl, hdk⟩ := hC
  obtain ⟨hW, hH, hL, hsc⟩ := hS
  unfold zq_i2 at hf
  split at hf
  · cases hf
    exact lv_iadd hx hb hdg (k H locs ls ⟨hW, hH, hL, hsc⟩)
  · cases hf
theorem zq_s_isub {cc : ByteArray} {nL : Nat} {own : String} {rf rl pc : Nat}  (hdg : decode cc pc = .ok (.isub, 1))  : zq_snd cc nL own rf rl pc (zq_i2 (pc + 1) (fun x y => x - y)) := by
  intro g p l e R s m args below meth c H locs cells slots Z ls lo st μ P pc' lo' st' μ' hC hS hf hP k
  obtain ⟨hx, hb, hml, hown, hts, hK, hX, hbl, hJ, hrf, hrl, hce, hsl, hdk⟩ := hC
  obtain ⟨hW, hH, hL, hsc⟩ := hS
  unfold zq_i2 at hf
  split at hf
  · cases hf
    exact lv_isub hx hb hdg (k H locs ls ⟨hW, hH, hL, hsc⟩)
  · cases hf
theorem zq_s_imul {cc : ByteArray} {nL : Nat} {own : String} {rf rl pc : Nat}  (hdg : decode cc pc = .ok (.imul, 1))  : zq_snd cc nL own rf rl pc (zq_i2 (pc + 1) (fun x y => x * y)) := by
  intro g p l e R s m args below meth c H locs cells slots Z ls lo st μ P pc' lo' st' μ' hC hS hf hP k
  obtain ⟨hx, hb, hml, hown, hts, hK, hX, hbl, hJ, hrf, hrl, hce, hsl, hdk⟩ := hC
  obtain ⟨hW, hH, hL, hsc⟩ := hS
  unfold zq_i2 at hf
  split at hf
  · cases hf
    exact lv_imul hx hb hdg (k H locs ls ⟨hW, hH, hL, hsc⟩)
  · cases hf
theorem zq_s_iand {cc : ByteArray} {nL : Nat} {own : String} {rf rl pc : Nat}  (hdg : decode cc pc = .ok (.iand, 1))  : zq_snd cc nL own rf rl pc (zq_i2 (pc + 1) (fun x y => x &&& y)) := by
  intro g p l e R s m args below meth c H locs cells slots Z ls lo st μ P pc' lo' st' μ' hC hS hf hP k
  obtain ⟨hx, hb, hml, hown, hts, hK, hX, hbl, hJ, hrf, hrl, hce, hsl, hdk⟩ := hC
  obtain ⟨hW, hH, hL, hsc⟩ := hS
  unfold zq_i2 at hf
  split at hf
  · cases hf
    exact lv_iand hx hb hdg (k H locs ls ⟨hW, hH, hL, hsc⟩)
  · cases hf
theorem zq_s_ior {cc : ByteArray} {nL : Nat} {own : String} {rf rl pc : Nat}  (hdg : decode cc pc = .ok (.ior, 1))  : zq_snd cc nL own rf rl pc (zq_i2 (pc + 1) (fun x y => x ||| y)) := by
  intro g p l e R s m args below meth c H locs cells slots Z ls lo st μ P pc' lo' st' μ' hC hS hf hP k
  obtain ⟨hx, hb, hml, hown, hts, hK, hX, hbl, hJ, hrf, hrl, hce, hsl, hdk⟩ := hC
  obtain ⟨hW, hH, hL, hsc⟩ := hS
  unfold zq_i2 at hf
  split at hf
  · cases hf
    exact lv_ior hx hb hdg (k H locs ls ⟨hW, hH, hL, hsc⟩)
  · cases hf
theorem zq_s_ixor {cc : ByteArray} {nL : Nat} {own : String} {rf rl pc : Nat}  (hdg : decode cc pc = .ok (.ixor, 1))  : zq_snd cc nL own rf rl pc (zq_i2 (pc + 1) (fun x y => x ^^^ y)) := by
  intro g p l e R s m args below meth c H locs cells slots Z ls lo st μ P pc' lo' st' μ' hC hS hf hP k
  obtain ⟨hx, hb, hml, hown, hts, hK, hX, hbl, hJ, hrf, hrl, hce, hsl, hdk⟩ := hC
  obtain ⟨hW, hH, hL, hsc⟩ := hS
  unfold zq_i2 at hf
  split at hf
  · cases hf
    exact lv_ixor hx hb hdg (k H locs ls ⟨hW, hH, hL, hsc⟩)
  · cases hf
theorem zq_s_ishl {cc : ByteArray} {nL : Nat} {own : String} {rf rl pc : Nat}  (hdg : decode cc pc = .ok (.ishl, 1))  : zq_snd cc nL own rf rl pc (zq_i2 (pc + 1) (fun x y => x <<< (y &&& 31))) := by
  intro g p l e R s m args below meth c H locs cells slots Z ls lo st μ P pc' lo' st' μ' hC hS hf hP k
  obtain ⟨hx, hb, hml, hown, hts, hK, hX, hbl, hJ, hrf, hrl, hce, hsl, hdk⟩ := hC
  obtain ⟨hW, hH, hL, hsc⟩ := hS
  unfold zq_i2 at hf
  split at hf
  · cases hf
    exact lv_ishl hx hb hdg (k H locs ls ⟨hW, hH, hL, hsc⟩)
  · cases hf
theorem zq_s_ishr {cc : ByteArray} {nL : Nat} {own : String} {rf rl pc : Nat}  (hdg : decode cc pc = .ok (.ishr, 1))  : zq_snd cc nL own rf rl pc (zq_i2 (pc + 1) (fun x y => x >>> (y &&& 31))) := by
  intro g p l e R s m args below meth c H locs cells slots Z ls lo st μ P pc' lo' st' μ' hC hS hf hP k
  obtain ⟨hx, hb, hml, hown, hts, hK, hX, hbl, hJ, hrf, hrl, hce, hsl, hdk⟩ := hC
  obtain ⟨hW, hH, hL, hsc⟩ := hS
  unfold zq_i2 at hf
  split at hf
  · cases hf
    exact lv_ishr hx hb hdg (k H locs ls ⟨hW, hH, hL, hsc⟩)
  · cases hf
def zq_ush (x y : Int32) : Int32 := (x.toUInt32 >>> (y.toUInt32 &&& Int32.toUInt32 31)).toInt32
theorem zq_s_iushr {cc : ByteArray} {nL : Nat} {own : String} {rf rl pc : Nat}  (hdg : decode cc pc = .ok (.iushr, 1))  : zq_snd cc nL own rf rl pc (zq_i2 (pc + 1) zq_ush) := by
  intro g p l e R s m args below meth c H locs cells slots Z ls lo st μ P pc' lo' st' μ' hC hS hf hP k
  obtain ⟨hx, hb, hml, hown, hts, hK, hX, hbl, hJ, hrf, hrl, hce, hsl, hdk⟩ := hC
  obtain ⟨hW, hH, hL, hsc⟩ := hS
  unfold zq_i2 at hf
  split at hf
  · cases hf
    exact lv_iushr hx hb hdg rfl (k H locs ls ⟨hW, hH, hL, hsc⟩)
  · cases hf
theorem zq_s_idiv {cc : ByteArray} {nL : Nat} {own : String} {rf rl pc : Nat}  (hdg : decode cc pc = .ok (.idiv, 1)) : zq_snd cc nL own rf rl pc (zq_i2c (pc + 1) (fun x y => x / y)) := by
  intro g p l e R s m args below meth c H locs cells slots Z ls lo st μ P pc' lo' st' μ' hC hS hf hP k
  obtain ⟨hx, hb, hml, hown, hts, hK, hX, hbl, hJ, hrf, hrl, hce, hsl, hdk⟩ := hC
  obtain ⟨hW, hH, hL, hsc⟩ := hS
  unfold zq_i2c at hf
  split at hf
  · cases hf
    exact lv_idiv hx hb hdg hP.1 (k H locs ls ⟨hW, hH, hL, hsc⟩)
  · cases hf
theorem zq_s_irem {cc : ByteArray} {nL : Nat} {own : String} {rf rl pc : Nat}  (hdg : decode cc pc = .ok (.irem, 1)) : zq_snd cc nL own rf rl pc (zq_i2c (pc + 1) (fun x y => x - x / y * y)) := by
  intro g p l e R s m args below meth c H locs cells slots Z ls lo st μ P pc' lo' st' μ' hC hS hf hP k
  obtain ⟨hx, hb, hml, hown, hts, hK, hX, hbl, hJ, hrf, hrl, hce, hsl, hdk⟩ := hC
  obtain ⟨hW, hH, hL, hsc⟩ := hS
  unfold zq_i2c at hf
  split at hf
  · cases hf
    exact lv_irem hx hb hdg hP.1 (k H locs ls ⟨hW, hH, hL, hsc⟩)
  · cases hf
theorem zq_s_ldiv {cc : ByteArray} {nL : Nat} {own : String} {rf rl pc : Nat}  (hdg : decode cc pc = .ok (.ldiv, 1)) : zq_snd cc nL own rf rl pc (zq_l2c (pc + 1) (fun x y => x / y)) := by
  intro g p l e R s m args below meth c H locs cells slots Z ls lo st μ P pc' lo' st' μ' hC hS hf hP k
  obtain ⟨hx, hb, hml, hown, hts, hK, hX, hbl, hJ, hrf, hrl, hce, hsl, hdk⟩ := hC
  obtain ⟨hW, hH, hL, hsc⟩ := hS
  unfold zq_l2c at hf
  split at hf
  · cases hf
    exact lv_ldiv hx hb hdg hP.1 (k H locs ls ⟨hW, hH, hL, hsc⟩)
  · cases hf
theorem zq_s_lrem {cc : ByteArray} {nL : Nat} {own : String} {rf rl pc : Nat}  (hdg : decode cc pc = .ok (.lrem, 1)) : zq_snd cc nL own rf rl pc (zq_l2c (pc + 1) (fun x y => x - x / y * y)) := by
  intro g p l e R s m args below meth c H locs cells slots Z ls lo st μ P pc' lo' st' μ' hC hS hf hP k
  obtain ⟨hx, hb, hml, hown, hts, hK, hX, hbl, hJ, hrf, hrl, hce, hsl, hdk⟩ := hC
  obtain ⟨hW, hH, hL, hsc⟩ := hS
  unfold zq_l2c at hf
  split at hf
  · cases hf
    exact lv_lrem hx hb hdg hP.1 (k H locs ls ⟨hW, hH, hL, hsc⟩)
  · cases hf
theorem zq_s_ladd {cc : ByteArray} {nL : Nat} {own : String} {rf rl pc : Nat}  (hdg : decode cc pc = .ok (.ladd, 1))  : zq_snd cc nL own rf rl pc (zq_l2 (pc + 1) (fun x y => x + y)) := by
  intro g p l e R s m args below meth c H locs cells slots Z ls lo st μ P pc' lo' st' μ' hC hS hf hP k
  obtain ⟨hx, hb, hml, hown, hts, hK, hX, hbl, hJ, hrf, hrl, hce, hsl, hdk⟩ := hC
  obtain ⟨hW, hH, hL, hsc⟩ := hS
  unfold zq_l2 at hf
  split at hf
  · cases hf
    exact lv_ladd hx hb hdg (k H locs ls ⟨hW, hH, hL, hsc⟩)
  · cases hf
theorem zq_s_lsub {cc : ByteArray} {nL : Nat} {own : String} {rf rl pc : Nat}  (hdg : decode cc pc = .ok (.lsub, 1))  : zq_snd cc nL own rf rl pc (zq_l2 (pc + 1) (fun x y => x - y)) := by
  intro g p l e R s m args below meth c H locs cells slots Z ls lo st μ P pc' lo' st' μ' hC hS hf hP k
  obtain ⟨hx, hb, hml, hown, hts, hK, hX, hbl, hJ, hrf, hrl, hce, hsl, hdk⟩ := hC
  obtain ⟨hW, hH, hL, hsc⟩ := hS
  unfold zq_l2 at hf
  split at hf
  · cases hf
    exact lv_lsub hx hb hdg (k H locs ls ⟨hW, hH, hL, hsc⟩)
  · cases hf
theorem zq_s_lmul {cc : ByteArray} {nL : Nat} {own : String} {rf rl pc : Nat}  (hdg : decode cc pc = .ok (.lmul, 1))  : zq_snd cc nL own rf rl pc (zq_l2 (pc + 1) (fun x y => x * y)) := by
  intro g p l e R s m args below meth c H locs cells slots Z ls lo st μ P pc' lo' st' μ' hC hS hf hP k
  obtain ⟨hx, hb, hml, hown, hts, hK, hX, hbl, hJ, hrf, hrl, hce, hsl, hdk⟩ := hC
  obtain ⟨hW, hH, hL, hsc⟩ := hS
  unfold zq_l2 at hf
  split at hf
  · cases hf
    exact lv_lmul hx hb hdg (k H locs ls ⟨hW, hH, hL, hsc⟩)
  · cases hf
theorem zq_s_land {cc : ByteArray} {nL : Nat} {own : String} {rf rl pc : Nat}  (hdg : decode cc pc = .ok (.land, 1))  : zq_snd cc nL own rf rl pc (zq_l2 (pc + 1) (fun x y => x &&& y)) := by
  intro g p l e R s m args below meth c H locs cells slots Z ls lo st μ P pc' lo' st' μ' hC hS hf hP k
  obtain ⟨hx, hb, hml, hown, hts, hK, hX, hbl, hJ, hrf, hrl, hce, hsl, hdk⟩ := hC
  obtain ⟨hW, hH, hL, hsc⟩ := hS
  unfold zq_l2 at hf
  split at hf
  · cases hf
    exact lv_land hx hb hdg (k H locs ls ⟨hW, hH, hL, hsc⟩)
  · cases hf
theorem zq_s_lshl {cc : ByteArray} {nL : Nat} {own : String} {rf rl pc : Nat}  (hdg : decode cc pc = .ok (.lshl, 1))  : zq_snd cc nL own rf rl pc (zq_lsf (pc + 1) (fun x y => x <<< (y.toInt64 &&& 63))) := by
  intro g p l e R s m args below meth c H locs cells slots Z ls lo st μ P pc' lo' st' μ' hC hS hf hP k
  obtain ⟨hx, hb, hml, hown, hts, hK, hX, hbl, hJ, hrf, hrl, hce, hsl, hdk⟩ := hC
  obtain ⟨hW, hH, hL, hsc⟩ := hS
  unfold zq_lsf at hf
  split at hf
  · cases hf
    exact lv_lshl hx hb hdg rfl (k H locs ls ⟨hW, hH, hL, hsc⟩)
  · cases hf
theorem zq_s_lshr {cc : ByteArray} {nL : Nat} {own : String} {rf rl pc : Nat}  (hdg : decode cc pc = .ok (.lshr, 1))  : zq_snd cc nL own rf rl pc (zq_lsf (pc + 1) (fun x y => x >>> (y.toInt64 &&& 63))) := by
  intro g p l e R s m args below meth c H locs cells slots Z ls lo st μ P pc' lo' st' μ' hC hS hf hP k
  obtain ⟨hx, hb, hml, hown, hts, hK, hX, hbl, hJ, hrf, hrl, hce, hsl, hdk⟩ := hC
  obtain ⟨hW, hH, hL, hsc⟩ := hS
  unfold zq_lsf at hf
  split at hf
  · cases hf
    exact lv_lshr hx hb hdg rfl (k H locs ls ⟨hW, hH, hL, hsc⟩)
  · cases hf
theorem zq_s_i2l {cc : ByteArray} {nL : Nat} {own : String} {rf rl pc : Nat}  (hdg : decode cc pc = .ok (.i2l, 1))  : zq_snd cc nL own rf rl pc (zq_i2l (pc + 1) ) := by
  intro g p l e R s m args below meth c H locs cells slots Z ls lo st μ P pc' lo' st' μ' hC hS hf hP k
  obtain ⟨hx, hb, hml, hown, hts, hK, hX, hbl, hJ, hrf, hrl, hce, hsl, hdk⟩ := hC
  obtain ⟨hW, hH, hL, hsc⟩ := hS
  unfold zq_i2l at hf
  split at hf
  · cases hf
    exact lv_i2l hx hb hdg rfl (k H locs ls ⟨hW, hH, hL, hsc⟩)
  · cases hf
theorem zq_s_i2b {cc : ByteArray} {nL : Nat} {own : String} {rf rl pc : Nat}  (hdg : decode cc pc = .ok (.i2b, 1))  : zq_snd cc nL own rf rl pc (zq_i1 (pc + 1) (fun x => x.toInt8.toInt32)) := by
  intro g p l e R s m args below meth c H locs cells slots Z ls lo st μ P pc' lo' st' μ' hC hS hf hP k
  obtain ⟨hx, hb, hml, hown, hts, hK, hX, hbl, hJ, hrf, hrl, hce, hsl, hdk⟩ := hC
  obtain ⟨hW, hH, hL, hsc⟩ := hS
  unfold zq_i1 at hf
  split at hf
  · cases hf
    exact lv_i2b hx hb hdg rfl (k H locs ls ⟨hW, hH, hL, hsc⟩)
  · cases hf
theorem zq_s_i2s {cc : ByteArray} {nL : Nat} {own : String} {rf rl pc : Nat}  (hdg : decode cc pc = .ok (.i2s, 1))  : zq_snd cc nL own rf rl pc (zq_i1 (pc + 1) (fun x => x.toInt16.toInt32)) := by
  intro g p l e R s m args below meth c H locs cells slots Z ls lo st μ P pc' lo' st' μ' hC hS hf hP k
  obtain ⟨hx, hb, hml, hown, hts, hK, hX, hbl, hJ, hrf, hrl, hce, hsl, hdk⟩ := hC
  obtain ⟨hW, hH, hL, hsc⟩ := hS
  unfold zq_i1 at hf
  split at hf
  · cases hf
    exact lv_i2s hx hb hdg rfl (k H locs ls ⟨hW, hH, hL, hsc⟩)
  · cases hf
theorem zq_s_lcmp {cc : ByteArray} {nL : Nat} {own : String} {rf rl pc : Nat}  (hdg : decode cc pc = .ok (.lcmp, 1))  : zq_snd cc nL own rf rl pc (zq_lcmp (pc + 1) ) := by
  intro g p l e R s m args below meth c H locs cells slots Z ls lo st μ P pc' lo' st' μ' hC hS hf hP k
  obtain ⟨hx, hb, hml, hown, hts, hK, hX, hbl, hJ, hrf, hrl, hce, hsl, hdk⟩ := hC
  obtain ⟨hW, hH, hL, hsc⟩ := hS
  unfold zq_lcmp at hf
  split at hf
  · cases hf
    exact W.lcmp hx hb hdg (k H locs ls ⟨hW, hH, hL, hsc⟩)
  · cases hf
theorem zq_s_dup {cc : ByteArray} {nL : Nat} {own : String} {rf rl pc : Nat}  (hdg : decode cc pc = .ok (.dup, 1)) : zq_snd cc nL own rf rl pc (zq_dup (pc + 1)) := by
  intro g p l e R s m args below meth c H locs cells slots Z ls lo st μ P pc' lo' st' μ' hC hS hf hP k
  obtain ⟨hx, hb, hml, hown, hts, hK, hX, hbl, hJ, hrf, hrl, hce, hsl, hdk⟩ := hC
  obtain ⟨hW, hH, hL, hsc⟩ := hS
  unfold zq_dup at hf
  split at hf
  · cases hf
    exact lv_dup hx hb hdg rfl (k H locs ls ⟨hW, hH, hL, hsc⟩)
  · cases hf
    exact lv_dup hx hb hdg rfl (k H locs ls ⟨hW, hH, hL, hsc⟩)
  · cases hf
theorem zq_s_dup2 {cc : ByteArray} {nL : Nat} {own : String} {rf rl pc : Nat}  (hdg : decode cc pc = .ok (.dup2, 1))  : zq_snd cc nL own rf rl pc (zq_dup2 (pc + 1) ) := by
  intro g p l e R s m args below meth c H locs cells slots Z ls lo st μ P pc' lo' st' μ' hC hS hf hP k
  obtain ⟨hx, hb, hml, hown, hts, hK, hX, hbl, hJ, hrf, hrl, hce, hsl, hdk⟩ := hC
  obtain ⟨hW, hH, hL, hsc⟩ := hS
  unfold zq_dup2 at hf
  split at hf
  · cases hf
    exact lv_dup2_11 hx hb hdg rfl rfl (k H locs ls ⟨hW, hH, hL, hsc⟩)
  · cases hf
def zq_if_eq (pc' tgt : Nat) : zq_Op := fun lo st μ => match st with
  | .int x :: r => some ([], if x = 0 then tgt else pc', lo, r, μ)
  | _ => none
def zq_ic_eq (pc' tgt : Nat) : zq_Op := fun lo st μ => match st with
  | .int y :: .int x :: r => some ([], if x = y then tgt else pc', lo, r, μ)
  | _ => none
theorem zq_s_if_eq {cc : ByteArray} {nL : Nat} {own : String} {rf rl pc : Nat} {off : Int} {tgt : Nat} (hdg : decode cc pc = .ok (.ifCond .eq off, 3)) (ht : (pc : Int) + off = (tgt : Int)) : zq_snd cc nL own rf rl pc (zq_if_eq (pc + 3) tgt) := by
  intro g p l e R s m args below meth c H locs cells slots Z ls lo st μ P pc' lo' st' μ' hC hS hf hP k
  obtain ⟨hx, hb, hml, hown, hts, hK, hX, hbl, hJ, hrf, hrl, hce, hsl, hdk⟩ := hC
  obtain ⟨hW, hH, hL, hsc⟩ := hS
  unfold zq_if_eq at hf
  split at hf
  · cases hf
    have k := k H locs ls ⟨hW, hH, hL, hsc⟩
    refine lv_if_eq hx hb hdg ht (fun hq => ?_) (fun hq => ?_)
    · rw [if_pos hq] at k
      exact k
    · rw [if_neg hq] at k
      exact k
  · cases hf
theorem zq_s_ic_eq {cc : ByteArray} {nL : Nat} {own : String} {rf rl pc : Nat} {off : Int} {tgt : Nat} (hdg : decode cc pc = .ok (.if_icmp .eq off, 3)) (ht : (pc : Int) + off = (tgt : Int)) : zq_snd cc nL own rf rl pc (zq_ic_eq (pc + 3) tgt) := by
  intro g p l e R s m args below meth c H locs cells slots Z ls lo st μ P pc' lo' st' μ' hC hS hf hP k
  obtain ⟨hx, hb, hml, hown, hts, hK, hX, hbl, hJ, hrf, hrl, hce, hsl, hdk⟩ := hC
  obtain ⟨hW, hH, hL, hsc⟩ := hS
  unfold zq_ic_eq at hf
  split at hf
  · cases hf
    have k := k H locs ls ⟨hW, hH, hL, hsc⟩
    refine lv_icmp_eq hx hb hdg ht (fun hq => ?_) (fun hq => ?_)
    · rw [if_pos hq] at k
      exact k
    · rw [if_neg hq] at k
      exact k
  · cases hf
def zq_if_ne (pc' tgt : Nat) : zq_Op := fun lo st μ => match st with
  | .int x :: r => some ([], if ¬ x = 0 then tgt else pc', lo, r, μ)
  | _ => none
def zq_ic_ne (pc' tgt : Nat) : zq_Op := fun lo st μ => match st with
  | .int y :: .int x :: r => some ([], if ¬ x = y then tgt else pc', lo, r, μ)
  | _ => none
theorem zq_s_if_ne {cc : ByteArray} {nL : Nat} {own : String} {rf rl pc : Nat} {off : Int} {tgt : Nat} (hdg : decode cc pc = .ok (.ifCond .ne off, 3)) (ht : (pc : Int) + off = (tgt : Int)) : zq_snd cc nL own rf rl pc (zq_if_ne (pc + 3) tgt) := by
  intro g p l e R s m args below meth c H locs cells slots Z ls lo st μ P pc' lo' st' μ' hC hS hf hP k
  obtain ⟨hx, hb, hml, hown, hts, hK, hX, hbl, hJ, hrf, hrl, hce, hsl, hdk⟩ := hC
  obtain ⟨hW, hH, hL, hsc⟩ := hS
  unfold zq_if_ne at hf
  split at hf
  · cases hf
    have k := k H locs ls ⟨hW, hH, hL, hsc⟩
    refine lv_if_ne hx hb hdg ht (fun hq => ?_) (fun hq => ?_)
    · rw [if_pos hq] at k
      exact k
    · rw [if_neg (fun h => h hq)] at k
      exact k
  · cases hf
theorem zq_s_ic_ne {cc : ByteArray} {nL : Nat} {own : String} {rf rl pc : Nat} {off : Int} {tgt : Nat} (hdg : decode cc pc = .ok (.if_icmp .ne off, 3)) (ht : (pc : Int) + off = (tgt : Int)) : zq_snd cc nL own rf rl pc (zq_ic_ne (pc + 3) tgt) := by
  intro g p l e R s m args below meth c H locs cells slots Z ls lo st μ P pc' lo' st' μ' hC hS hf hP k
  obtain ⟨hx, hb, hml, hown, hts, hK, hX, hbl, hJ, hrf, hrl, hce, hsl, hdk⟩ := hC
  obtain ⟨hW, hH, hL, hsc⟩ := hS
  unfold zq_ic_ne at hf
  split at hf
  · cases hf
    have k := k H locs ls ⟨hW, hH, hL, hsc⟩
    refine lv_icmp_ne hx hb hdg ht (fun hq => ?_) (fun hq => ?_)
    · rw [if_pos hq] at k
      exact k
    · rw [if_neg (fun h => h hq)] at k
      exact k
  · cases hf
def zq_if_lt (pc' tgt : Nat) : zq_Op := fun lo st μ => match st with
  | .int x :: r => some ([], if x < 0 then tgt else pc', lo, r, μ)
  | _ => none
def zq_ic_lt (pc' tgt : Nat) : zq_Op := fun lo st μ => match st with
  | .int y :: .int x :: r => some ([], if x < y then tgt else pc', lo, r, μ)
  | _ => none
theorem zq_s_if_lt {cc : ByteArray} {nL : Nat} {own : String} {rf rl pc : Nat} {off : Int} {tgt : Nat} (hdg : decode cc pc = .ok (.ifCond .lt off, 3)) (ht : (pc : Int) + off = (tgt : Int)) : zq_snd cc nL own rf rl pc (zq_if_lt (pc + 3) tgt) := by
  intro g p l e R s m args below meth c H locs cells slots Z ls lo st μ P pc' lo' st' μ' hC hS hf hP k
  obtain ⟨hx, hb, hml, hown, hts, hK, hX, hbl, hJ, hrf, hrl, hce, hsl, hdk⟩ := hC
  obtain ⟨hW, hH, hL, hsc⟩ := hS
  unfold zq_if_lt at hf
  split at hf
  · cases hf
    have k := k H locs ls ⟨hW, hH, hL, hsc⟩
    refine lv_if_lt hx hb hdg ht (fun hq => ?_) (fun hq => ?_)
    · rw [if_pos hq] at k
      exact k
    · rw [if_neg hq] at k
      exact k
  · cases hf
theorem zq_s_ic_lt {cc : ByteArray} {nL : Nat} {own : String} {rf rl pc : Nat} {off : Int} {tgt : Nat} (hdg : decode cc pc = .ok (.if_icmp .lt off, 3)) (ht : (pc : Int) + off = (tgt : Int)) : zq_snd cc nL own rf rl pc (zq_ic_lt (pc + 3) tgt) := by
  intro g p l e R s m args below meth c H locs cells slots Z ls lo st μ P pc' lo' st' μ' hC hS hf hP k
  obtain ⟨hx, hb, hml, hown, hts, hK, hX, hbl, hJ, hrf, hrl, hce, hsl, hdk⟩ := hC
  obtain ⟨hW, hH, hL, hsc⟩ := hS
  unfold zq_ic_lt at hf
  split at hf
  · cases hf
    have k := k H locs ls ⟨hW, hH, hL, hsc⟩
    refine lv_icmp_lt hx hb hdg ht (fun hq => ?_) (fun hq => ?_)
    · rw [if_pos hq] at k
      exact k
    · rw [if_neg hq] at k
      exact k
  · cases hf
def zq_if_ge (pc' tgt : Nat) : zq_Op := fun lo st μ => match st with
  | .int x :: r => some ([], if 0 ≤ x then tgt else pc', lo, r, μ)
  | _ => none
def zq_ic_ge (pc' tgt : Nat) : zq_Op := fun lo st μ => match st with
  | .int y :: .int x :: r => some ([], if y ≤ x then tgt else pc', lo, r, μ)
  | _ => none
theorem zq_s_if_ge {cc : ByteArray} {nL : Nat} {own : String} {rf rl pc : Nat} {off : Int} {tgt : Nat} (hdg : decode cc pc = .ok (.ifCond .ge off, 3)) (ht : (pc : Int) + off = (tgt : Int)) : zq_snd cc nL own rf rl pc (zq_if_ge (pc + 3) tgt) := by
  intro g p l e R s m args below meth c H locs cells slots Z ls lo st μ P pc' lo' st' μ' hC hS hf hP k
  obtain ⟨hx, hb, hml, hown, hts, hK, hX, hbl, hJ, hrf, hrl, hce, hsl, hdk⟩ := hC
  obtain ⟨hW, hH, hL, hsc⟩ := hS
  unfold zq_if_ge at hf
  split at hf
  · cases hf
    have k := k H locs ls ⟨hW, hH, hL, hsc⟩
    refine lv_if_ge hx hb hdg ht (fun hq => ?_) (fun hq => ?_)
    · rw [if_pos hq] at k
      exact k
    · rw [if_neg hq] at k
      exact k
  · cases hf
theorem zq_s_ic_ge {cc : ByteArray} {nL : Nat} {own : String} {rf rl pc : Nat} {off : Int} {tgt : Nat} (hdg : decode cc pc = .ok (.if_icmp .ge off, 3)) (ht : (pc : Int) + off = (tgt : Int)) : zq_snd cc nL own rf rl pc (zq_ic_ge (pc + 3) tgt) := by
  intro g p l e R s m args below meth c H locs cells slots Z ls lo st μ P pc' lo' st' μ' hC hS hf hP k
  obtain ⟨hx, hb, hml, hown, hts, hK, hX, hbl, hJ, hrf, hrl, hce, hsl, hdk⟩ := hC
  obtain ⟨hW, hH, hL, hsc⟩ := hS
  unfold zq_ic_ge at hf
  split at hf
  · cases hf
    have k := k H locs ls ⟨hW, hH, hL, hsc⟩
    refine lv_icmp_ge hx hb hdg ht (fun hq => ?_) (fun hq => ?_)
    · rw [if_pos hq] at k
      exact k
    · rw [if_neg hq] at k
      exact k
  · cases hf
def zq_if_gt (pc' tgt : Nat) : zq_Op := fun lo st μ => match st with
  | .int x :: r => some ([], if 0 < x then tgt else pc', lo, r, μ)
  | _ => none
def zq_ic_gt (pc' tgt : Nat) : zq_Op := fun lo st μ => match st with
  | .int y :: .int x :: r => some ([], if y < x then tgt else pc', lo, r, μ)
  | _ => none
theorem zq_s_if_gt {cc : ByteArray} {nL : Nat} {own : String} {rf rl pc : Nat} {off : Int} {tgt : Nat} (hdg : decode cc pc = .ok (.ifCond .gt off, 3)) (ht : (pc : Int) + off = (tgt : Int)) : zq_snd cc nL own rf rl pc (zq_if_gt (pc + 3) tgt) := by
  intro g p l e R s m args below meth c H locs cells slots Z ls lo st μ P pc' lo' st' μ' hC hS hf hP k
  obtain ⟨hx, hb, hml, hown, hts, hK, hX, hbl, hJ, hrf, hrl, hce, hsl, hdk⟩ := hC
  obtain ⟨hW, hH, hL, hsc⟩ := hS
  unfold zq_if_gt at hf
  split at hf
  · cases hf
    have k := k H locs ls ⟨hW, hH, hL, hsc⟩
    refine lv_if_gt hx hb hdg ht (fun hq => ?_) (fun hq => ?_)
    · rw [if_pos hq] at k
      exact k
    · rw [if_neg hq] at k
      exact k
  · cases hf
theorem zq_s_ic_gt {cc : ByteArray} {nL : Nat} {own : String} {rf rl pc : Nat} {off : Int} {tgt : Nat} (hdg : decode cc pc = .ok (.if_icmp .gt off, 3)) (ht : (pc : Int) + off = (tgt : Int)) : zq_snd cc nL own rf rl pc (zq_ic_gt (pc + 3) tgt) := by
  intro g p l e R s m args below meth c H locs cells slots Z ls lo st μ P pc' lo' st' μ' hC hS hf hP k
  obtain ⟨hx, hb, hml, hown, hts, hK, hX, hbl, hJ, hrf, hrl, hce, hsl, hdk⟩ := hC
  obtain ⟨hW, hH, hL, hsc⟩ := hS
  unfold zq_ic_gt at hf
  split at hf
  · cases hf
    have k := k H locs ls ⟨hW, hH, hL, hsc⟩
    refine lv_icmp_gt hx hb hdg ht (fun hq => ?_) (fun hq => ?_)
    · rw [if_pos hq] at k
      exact k
    · rw [if_neg hq] at k
      exact k
  · cases hf
def zq_if_le (pc' tgt : Nat) : zq_Op := fun lo st μ => match st with
  | .int x :: r => some ([], if x ≤ 0 then tgt else pc', lo, r, μ)
  | _ => none
def zq_ic_le (pc' tgt : Nat) : zq_Op := fun lo st μ => match st with
  | .int y :: .int x :: r => some ([], if x ≤ y then tgt else pc', lo, r, μ)
  | _ => none
theorem zq_s_if_le {cc : ByteArray} {nL : Nat} {own : String} {rf rl pc : Nat} {off : Int} {tgt : Nat} (hdg : decode cc pc = .ok (.ifCond .le off, 3)) (ht : (pc : Int) + off = (tgt : Int)) : zq_snd cc nL own rf rl pc (zq_if_le (pc + 3) tgt) := by
  intro g p l e R s m args below meth c H locs cells slots Z ls lo st μ P pc' lo' st' μ' hC hS hf hP k
  obtain ⟨hx, hb, hml, hown, hts, hK, hX, hbl, hJ, hrf, hrl, hce, hsl, hdk⟩ := hC
  obtain ⟨hW, hH, hL, hsc⟩ := hS
  unfold zq_if_le at hf
  split at hf
  · cases hf
    have k := k H locs ls ⟨hW, hH, hL, hsc⟩
    refine lv_if_le hx hb hdg ht (fun hq => ?_) (fun hq => ?_)
    · rw [if_pos hq] at k
      exact k
    · rw [if_neg hq] at k
      exact k
  · cases hf
theorem zq_s_ic_le {cc : ByteArray} {nL : Nat} {own : String} {rf rl pc : Nat} {off : Int} {tgt : Nat} (hdg : decode cc pc = .ok (.if_icmp .le off, 3)) (ht : (pc : Int) + off = (tgt : Int)) : zq_snd cc nL own rf rl pc (zq_ic_le (pc + 3) tgt) := by
  intro g p l e R s m args below meth c H locs cells slots Z ls lo st μ P pc' lo' st' μ' hC hS hf hP k
  obtain ⟨hx, hb, hml, hown, hts, hK, hX, hbl, hJ, hrf, hrl, hce, hsl, hdk⟩ := hC
  obtain ⟨hW, hH, hL, hsc⟩ := hS
  unfold zq_ic_le at hf
  split at hf
  · cases hf
    have k := k H locs ls ⟨hW, hH, hL, hsc⟩
    refine lv_icmp_le hx hb hdg ht (fun hq => ?_) (fun hq => ?_)
    · rw [if_pos hq] at k
      exact k
    · rw [if_neg hq] at k
      exact k
  · cases hf
def zq_ifnull (pc' tgt : Nat) : zq_Op := fun lo st μ => match st with
  | .ref _ :: r => some ([], pc', lo, r, μ)
  | .null :: r => some ([], tgt, lo, r, μ)
  | _ => none
def zq_goto (tgt : Nat) : zq_Op := fun lo st μ => some ([], tgt, lo, st, μ)
theorem zq_s_ifnull {cc : ByteArray} {nL : Nat} {own : String} {rf rl pc : Nat} {off : Int} {tgt : Nat} (hdg : decode cc pc = .ok (.ifnull off, 3)) (ht : (pc : Int) + off = (tgt : Int)) : zq_snd cc nL own rf rl pc (zq_ifnull (pc + 3) tgt) := by
  intro g p l e R s m args below meth c H locs cells slots Z ls lo st μ P pc' lo' st' μ' hC hS hf hP k
  obtain ⟨hx, hb, hml, hown, hts, hK, hX, hbl, hJ, hrf, hrl, hce, hsl, hdk⟩ := hC
  obtain ⟨hW, hH, hL, hsc⟩ := hS
  unfold zq_ifnull at hf
  split at hf
  · cases hf
    exact lv_ifnull hx hb hdg (k H locs ls ⟨hW, hH, hL, hsc⟩)
  · cases hf
    exact lv_ifnullN hx hb hdg ht (k H locs ls ⟨hW, hH, hL, hsc⟩)
  · cases hf
theorem zq_s_ifnonnull {cc : ByteArray} {nL : Nat} {own : String} {rf rl pc : Nat} {off : Int} {tgt : Nat} (hdg : decode cc pc = .ok (.ifnonnull off, 3)) (ht : (pc : Int) + off = (tgt : Int)) : zq_snd cc nL own rf rl pc (zq_ifnull tgt (pc + 3)) := by
  intro g p l e R s m args below meth c H locs cells slots Z ls lo st μ P pc' lo' st' μ' hC hS hf hP k
  obtain ⟨hx, hb, hml, hown, hts, hK, hX, hbl, hJ, hrf, hrl, hce, hsl, hdk⟩ := hC
  obtain ⟨hW, hH, hL, hsc⟩ := hS
  unfold zq_ifnull at hf
  split at hf
  · cases hf
    exact lv_ifnonnull hx hb hdg ht (k H locs ls ⟨hW, hH, hL, hsc⟩)
  · cases hf
    exact lv_ifnonnullN hx hb hdg (k H locs ls ⟨hW, hH, hL, hsc⟩)
  · cases hf
theorem zq_s_goto {cc : ByteArray} {nL : Nat} {own : String} {rf rl pc : Nat} {off : Int} {tgt : Nat} (hdg : decode cc pc = .ok (.goto off, 3)) (ht : (pc : Int) + off = (tgt : Int)) : zq_snd cc nL own rf rl pc (zq_goto tgt) := by
  intro g p l e R s m args below meth c H locs cells slots Z ls lo st μ P pc' lo' st' μ' hC hS hf hP k
  obtain ⟨hx, hb, hml, hown, hts, hK, hX, hbl, hJ, hrf, hrl, hce, hsl, hdk⟩ := hC
  obtain ⟨hW, hH, hL, hsc⟩ := hS
  cases hf
  exact lv_goto hx hb hdg ht (k H locs ls ⟨hW, hH, hL, hsc⟩)
def zq_tgt (lo hi : Int) (d : Nat) (tg : List Nat) (x : Int32) : Nat := if x.toInt < lo ∨ hi < x.toInt then d else tg.getD (x.toInt - lo).toNat d
def zq_tsw (lo hi : Int) (d : Nat) (tg : List Nat) : zq_Op := fun l st μ => match st with
  | .int x :: r => some ([], zq_tgt lo hi d tg x, l, r, μ)
  | _ => none
theorem zq_s_tsw {cc : ByteArray} {nL : Nat} {own : String} {rf rl pc : Nat} {dflt lw hi : Int} {offs : Array Int} {len d : Nat} {tg : List Nat} (hdg : decode cc pc = .ok (.tableswitch dflt lw hi offs, len)) (hd : (pc : Int) + dflt = (d : Int)) (hn : hi - lw < tg.length) (ht : ∀ n, n < tg.length → ∃ off, offs[n]? = some off ∧ (pc : Int) + off = (tg.getD n d : Int)) : zq_snd cc nL own rf rl pc (zq_tsw lw hi d tg) := by
  intro g p l e R s m args below meth c H locs cells slots Z ls lo st μ P pc' lo' st' μ' hC hS hf hP k
  obtain ⟨hx, hb, hml, hown, hts, hK, hX, hbl, hJ, hrf, hrl, hce, hsl, hdk⟩ := hC
  obtain ⟨hW, hH, hL, hsc⟩ := hS
  unfold zq_tsw at hf
  split at hf
  · rename_i x r
    cases hf
    have k := k H locs ls ⟨hW, hH, hL, hsc⟩
    by_cases hq : x.toInt < lw ∨ hi < x.toInt
    · unfold zq_tgt at k
      rw [if_pos hq] at k
      exact lv_tableOut hx hb hdg hq hd k
    · unfold zq_tgt at k
      rw [if_neg hq] at k
      obtain ⟨off, h1, h2⟩ := ht (x.toInt - lw).toNat (by omega)
      exact lv_tableIn hx hb hdg (fun h => hq (Or.inl h)) (fun h => hq (Or.inr h)) h1 h2 k
  · cases hf
def zq_l3 (a1 a2 a3 : Int32) (t1 t2 t3 d : Nat) : zq_Op := fun l st μ => match st with
  | .int x :: r => some ([], if x = a1 then t1 else if x = a2 then t2 else if x = a3 then t3 else d, l, r, μ)
  | _ => none
theorem zq_s_l3 {cc : ByteArray} {nL : Nat} {own : String} {rf rl pc : Nat} {dflt : Int} {ps : Array (Int × Int)} {len d : Nat} {a1 a2 a3 : Int32} {b1 b2 b3 o1 o2 o3 : Int} {t1 t2 t3 : Nat} (hdg : decode cc pc = .ok (.lookupswitch dflt ps, len)) (hp : (ps.toList.zip (ps.toList.drop 1)).all (fun (a, next) => a.1 < next.1) = true) (hl : ps.toList = [(b1, o1), (b2, o2), (b3, o3)]) (h1 : a1.toInt = b1 ∧ a2.toInt = b2 ∧ a3.toInt = b3) (hd : (pc : Int) + dflt = (d : Int) ∧ (pc : Int) + o1 = (t1 : Int) ∧ (pc : Int) + o2 = (t2 : Int) ∧ (pc : Int) + o3 = (t3 : Int)) : zq_snd cc nL own rf rl pc (zq_l3 a1 a2 a3 t1 t2 t3 d) := by
  intro g p l e R s m args below meth c H locs cells slots Z ls lo st μ P pc' lo' st' μ' hC hS hf hP k
  obtain ⟨hx, hb, hml, hown, hts, hK, hX, hbl, hJ, hrf, hrl, hce, hsl, hdk⟩ := hC
  obtain ⟨hW, hH, hL, hsc⟩ := hS
  unfold zq_l3 at hf
  split at hf
  · rename_i x r
    cases hf
    have k := k H locs ls ⟨hW, hH, hL, hsc⟩
    obtain ⟨e1, e2, e3⟩ := h1
    obtain ⟨d0, d1, d2, d3⟩ := hd
    by_cases q1 : x = a1
    · rw [if_pos q1] at k
      exact lv_lookup hx hb hdg hp (off := o1) (by rw [hl, q1, ← e1]; simp [Op.lookupswitch.offset]) d1 k
    · rw [if_neg q1] at k
      by_cases q2 : x = a2
      · rw [if_pos q2] at k
        exact lv_lookup hx hb hdg hp (off := o2) (by rw [hl, lv_osw q1 e1, q2, ← e2]; simp [Op.lookupswitch.offset]) d2 k
      · rw [if_neg q2] at k
        by_cases q3 : x = a3
        · rw [if_pos q3] at k
          exact lv_lookup hx hb hdg hp (off := o3) (by rw [hl, lv_osw q1 e1, lv_osw q2 e2, q3, ← e3]; simp [Op.lookupswitch.offset]) d3 k
        · rw [if_neg q3] at k
          exact lv_lookup hx hb hdg hp (off := dflt) (by rw [hl, lv_osw q1 e1, lv_osw q2 e2, lv_osw q3 e3]; simp [Op.lookupswitch.offset]) d0 k
  · cases hf
def zq_asc (ci : Nat) : List (Nat × Nat) → Option Nat
  | [] => none
  | q :: r => bif Nat.beq q.1 ci then some q.2 else zq_asc ci r
theorem zq_asc_mem {ci j : Nat} : ∀ {cj : List (Nat × Nat)}, zq_asc ci cj = some j → (ci, j) ∈ cj
  | [], h => by cases h
  | q :: r, h => by
    unfold zq_asc at h
    cases hb : Nat.beq q.1 ci with
    | true =>
      rw [hb] at h
      cases h
      have := Nat.eq_of_beq_eq_true hb
      subst this
      exact List.mem_cons_self
    | false =>
      rw [hb] at h
      exact List.mem_cons_of_mem _ (zq_asc_mem h)
def zq_fcode (a : Nat) (cj : List (Nat × Nat)) : Option (Nat × Nat) := match zq_sh a with
  | (0, ci, cs) => match zq_asc ci cj with
    | some j => match cs[j]? with
      | some code => some (j, code)
      | none => none
    | none => none
  | _ => none
theorem zq_fcode_spec {a j code : Nat} {cj : List (Nat × Nat)} (h : zq_fcode a cj = some (j, code)) : ∃ (ci : Nat) (cs : List Nat), zq_sh a = (0, ci, cs) ∧ (ci, j) ∈ cj ∧ cs[j]? = some code := by
  unfold zq_fcode at h
  split at h
  · rename_i ci cs he
    split at h
    · rename_i j' hj
      split at h
      · rename_i code' hc
        cases h
        exact ⟨ci, cs, he, zq_asc_mem hj, hc⟩
      · cases h
    · cases h
  · cases h
def zq_fok (own : String) (index ci j : Nat) : Prop := ∃ (ref C : String) (T : u_T) (N : Nat), vwCl[ci]? = some (C, T, N) ∧ j < N ∧ (∀ w ∈ u_ws C T N, w ∈ zq_W) ∧ Cond.fieldLink own index ref (T j).2.1 (T j).2.2.1 ∈ zq_W ∧ (ref = (T j).1 ∨ Cond.sameField ref (T j).1 (T j).2.1 (T j).2.2.1 ∈ zq_W)
def zq_wok (own : String) (index ci j : Nat) (ty : FieldType) : Prop := ∃ (C : String) (T : u_T) (N : Nat) (ty0 : Nat → FieldType), vwCl[ci]? = some (C, T, N) ∧ j < N ∧ (∀ w ∈ u_ws C T N, w ∈ zq_W) ∧ Cond.fieldLink own index (T j).1 (T j).2.1 (T j).2.2.1 ∈ zq_W ∧ (∀ k, k < N → parseFieldDescriptor (T k).2.2.1 = some (ty0 k)) ∧ (∀ a, a < N → ∀ b, b < N → a ≠ b → (T a).2.1 ≠ (T b).2.1) ∧ (T j).2.2.2 = false ∧ parseFieldDescriptor (T j).2.2.1 = some ty
theorem zq_ce0 {g : zq_G} {μ : zq_Me} {a ci : Nat} {cs : List Nat} (h : zq_sh a = (0, ci, cs)) : zq_ce g μ a = .inr (ci, (zq_fvs a μ 0 cs).map (zq_cv g)) := by unfold zq_ce; rw [h]; rfl
theorem zq_ce1 {g : zq_G} {μ : zq_Me} {a n : Nat} {cs : List Nat} (h : zq_sh a = (1, n, cs)) : zq_ce g μ a = .inl (zq_cA g 0, (n, .inl (μ.1 a))) := by unfold zq_ce; rw [h]; rfl
theorem zq_ce2 {g : zq_G} {μ : zq_Me} {a n : Nat} {cs : List Nat} (h : zq_sh a = (2, n, cs)) : zq_ce g μ a = .inl (zq_cA g 1, (n, .inr (.inl (μ.2.1 a)))) := by unfold zq_ce; rw [h]; rfl
theorem zq_ce3 {g : zq_G} {μ : zq_Me} {a n : Nat} {cs : List Nat} (h : zq_sh a = (3, n, cs)) : zq_ce g μ a = .inl (zq_cA g 2, (n, .inl (μ.1 a))) := by unfold zq_ce; rw [h]; rfl
theorem zq_ce4 {g : zq_G} {μ : zq_Me} {a n : Nat} {cs : List Nat} (h : zq_sh a = (4, n, cs)) : zq_ce g μ a = .inl (zq_cA g 3, (n, .inr (.inr (.inr (.inr (fun j => some (zq_ad g (cs.getD j 0)))))))) := by unfold zq_ce; rw [h]; rfl
theorem zq_row {g : zq_G} {μ : zq_Me} {a : Nat} {e : va_E} (hl : a < zq_nC) (h : zq_ce g μ a = e) : (zq_ws g μ)[a]? = some (zq_ad g a, e) := by rw [zq_at hl, h]
def zq_getf (pc' : Nat) (cj : List (Nat × Nat)) : zq_Op := fun lo st μ => match st with
  | .ref a :: r => match zq_fcode a cj with
    | some (j, code) => some ([], pc', lo, zq_fv a j code μ :: r, μ)
    | none => none
  | _ => none
theorem zq_s_getf {cc : ByteArray} {nL : Nat} {own : String} {rf rl pc : Nat} {index : Nat} {cj : List (Nat × Nat)} (hdg : decode cc pc = .ok (.getfield index, 3)) (hok : ∀ q ∈ cj, zq_fok own index q.1 q.2) : zq_snd cc nL own rf rl pc (zq_getf (pc + 3) cj) := by
  intro g p l e R s m args below meth c H locs cells slots Z ls lo st μ P pc' lo' st' μ' hC hS hf hP k
  obtain ⟨hx, hb, hml, hown, hts, hK, hX, hbl, hJ, hrf, hrl, hce, hsl, hdk⟩ := hC
  obtain ⟨hW, hH, hL, hsc⟩ := hS
  unfold zq_getf at hf
  split at hf
  · rename_i a r
    split at hf
    · rename_i j code hq
      cases hf
      obtain ⟨ci, cs, h1, h2, h3⟩ := zq_fcode_spec hq
      obtain ⟨ref, C, T, N, q1, q2, q3, q4, q5⟩ := hok _ h2
      have hv : ((zq_fvs a μ 0 cs).map (zq_cv g))[j]? = some (zq_cv g (zq_fv a j code μ)) := by
        rw [List.getElem?_map, zq_fvs_get, h3, Nat.zero_add]
        rfl
      refine va_get (D := g.1) (ref := ref) hx hb hts q3 hown hK hW a (zq_row (zq_lt h1 (by decide)) (zq_ce0 h1)) q1 j q2 (hts _ q4) (fun x hx9 => ?_) hv hdg (k H locs ls ⟨hW, hH, hL, hsc⟩)
      rcases q5 with q5 | q5
      · rw [q5]; exact hx9
      · exact u_same (hts _ q5) x hx9
    · cases hf
  · cases hf
def zq_puti (pc' : Nat) (bz : Bool) (cj : List (Nat × Nat)) : zq_Op := fun lo st μ => match st with
  | .int x :: .ref a :: r => match zq_fcode a cj with
    | some (j, 0) => some (bif bz then [x = 0 ∨ x = 1] else [], pc', lo, r, zq_u1 μ a j x)
    | _ => none
  | _ => none
def zq_putr (pc' : Nat) (cj : List (Nat × Nat)) : zq_Op := fun lo st μ => match st with
  | .ref n :: .ref a :: r => match zq_fcode a cj with
    | some (j, 1) => some ([], pc', lo, r, zq_u3 μ a j n)
    | _ => none
  | _ => none
theorem zq_u1_o {g : zq_G} {μ : zq_Me} {a i : Nat} {x : Int32} : ∀ j, j ≠ a → zq_ce g (zq_u1 μ a i x) j = zq_ce g μ j := fun j hj => zq_ce_congr (by simp [zq_u1, hj]) rfl rfl
theorem zq_u2_o {g : zq_G} {μ : zq_Me} {a i : Nat} {x : Int64} : ∀ j, j ≠ a → zq_ce g (zq_u2 μ a i x) j = zq_ce g μ j := fun j hj => zq_ce_congr rfl (by simp [zq_u2, hj]) rfl
theorem zq_u3_o {g : zq_G} {μ : zq_Me} {a i n : Nat} : ∀ j, j ≠ a → zq_ce g (zq_u3 μ a i n) j = zq_ce g μ j := fun j hj => zq_ce_congr rfl rfl (by simp [zq_u3, hj])
theorem zq_ur_o {g : zq_G} {μ : zq_Me} {a : Nat} {f : Nat → Int32} : ∀ j, j ≠ a → zq_ce g (zq_ur μ a f) j = zq_ce g μ j := fun j hj => zq_ce_congr (by simp [zq_ur, hj]) rfl rfl
theorem zq_s_puti {cc : ByteArray} {nL : Nat} {own : String} {rf rl pc : Nat} {index : Nat} {bz : Bool} {cj : List (Nat × Nat)} {ty : FieldType} (hdg : decode cc pc = .ok (.putfield index, 3)) (hok : ∀ q ∈ cj, zq_wok own index q.1 q.2 ty) (hty : ∀ x : Int32, (bz = true → x = 0 ∨ x = 1) → narrow ty (.int x) = .int x ∧ fits ty (.int x) = true) : zq_snd cc nL own rf rl pc (zq_puti (pc + 3) bz cj) := by
  intro g p l e R s m args below meth c H locs cells slots Z ls lo st μ P pc' lo' st' μ' hC hS hf hP k
  obtain ⟨hx, hb, hml, hown, hts, hK, hX, hbl, hJ, hrf, hrl, hce, hsl, hdk⟩ := hC
  obtain ⟨hW, hH, hL, hsc⟩ := hS
  unfold zq_puti at hf
  split at hf
  · rename_i x a r
    split at hf
    · rename_i j hq
      cases hf
      obtain ⟨ci, cs, h1, h2, h3⟩ := zq_fcode_spec hq
      obtain ⟨C, T, N, ty0, q1, q2, q3, q4, q5, q6, q7, q8⟩ := hok _ h2
      obtain ⟨n1, n2⟩ := hty x (fun hb9 => by rw [hb9] at hP; exact hP.1)
      refine va_put (D := g.1) (ty := ty) hx hb hts q3 ty0 q5 q6 hown hK hW (zq_dis hJ μ) hH a (zq_row (zq_lt h1 (by decide)) (zq_ce0 h1)) q1 j q2 (hts _ q4) (fun _ h9 => h9) q7 q8 n1 n2 (by rw [List.length_map, zq_fvs_len]; exact (List.getElem?_eq_some_iff.mp h3).1) hdg (fun H1 locs1 hP1 _ hS1 => ?_)
      rw [zq_set (μ' := zq_u1 μ a j x) (by rw [zq_ce0 h1, zq_fvs_set1 cs h3, List.map_set]) zq_u1_o] at hP1
      exact k H1 locs1 ls ⟨hP1, hS1, hL, hsc⟩
    · cases hf
  · cases hf
theorem zq_s_putr {cc : ByteArray} {nL : Nat} {own : String} {rf rl pc : Nat} {index : Nat} {cj : List (Nat × Nat)} {C0 : String} (hdg : decode cc pc = .ok (.putfield index, 3)) (hok : ∀ q ∈ cj, zq_wok own index q.1 q.2 (.object C0)) : zq_snd cc nL own rf rl pc (zq_putr (pc + 3) cj) := by
  intro g p l e R s m args below meth c H locs cells slots Z ls lo st μ P pc' lo' st' μ' hC hS hf hP k
  obtain ⟨hx, hb, hml, hown, hts, hK, hX, hbl, hJ, hrf, hrl, hce, hsl, hdk⟩ := hC
  obtain ⟨hW, hH, hL, hsc⟩ := hS
  unfold zq_putr at hf
  split at hf
  · rename_i n a r
    split at hf
    · rename_i j hq
      cases hf
      obtain ⟨ci, cs, h1, h2, h3⟩ := zq_fcode_spec hq
      obtain ⟨C, T, N, ty0, q1, q2, q3, q4, q5, q6, q7, q8⟩ := hok _ h2
      refine va_put (D := g.1) (ty := .object C0) hx hb hts q3 ty0 q5 q6 hown hK hW (zq_dis hJ μ) hH a (zq_row (zq_lt h1 (by decide)) (zq_ce0 h1)) q1 j q2 (hts _ q4) (fun _ h9 => h9) q7 q8 rfl rfl (by rw [List.length_map, zq_fvs_len]; exact (List.getElem?_eq_some_iff.mp h3).1) hdg (fun H1 locs1 hP1 _ hS1 => ?_)
      rw [zq_set (μ' := zq_u3 μ a j n) (by rw [zq_ce0 h1, zq_fvs_set3 cs h3, List.map_set]) zq_u3_o] at hP1
      exact k H1 locs1 ls ⟨hP1, hS1, hL, hsc⟩
    · cases hf
  · cases hf
def zq_iald (pc' : Nat) : zq_Op := fun lo st μ => match st with
  | .int i :: .ref a :: r => match zq_sh a with
    | (1, n, _) => some ([vp_in i n], pc', lo, .int (μ.1 a i.toNatClampNeg) :: r, μ)
    | (5, _, _) => some ([vp_in i μ.2.2.2.1], pc', lo, .int (μ.2.2.2.2 i.toNatClampNeg) :: r, μ)
    | _ => none
  | _ => none
def zq_iast (pc' : Nat) : zq_Op := fun lo st μ => match st with
  | .int x :: .int i :: .ref a :: r => match zq_sh a with
    | (1, n, _) => some ([vp_in i n], pc', lo, r, zq_u1 μ a i.toNatClampNeg x)
    | _ => none
  | _ => none
def zq_lald (pc' : Nat) : zq_Op := fun lo st μ => match st with
  | .int i :: .ref a :: r => match zq_sh a with
    | (2, n, _) => some ([vp_in i n], pc', lo, .long (μ.2.1 a i.toNatClampNeg) :: r, μ)
    | _ => none
  | _ => none
def zq_last (pc' : Nat) : zq_Op := fun lo st μ => match st with
  | .long x :: .int i :: .ref a :: r => match zq_sh a with
    | (2, n, _) => some ([vp_in i n], pc', lo, r, zq_u2 μ a i.toNatClampNeg x)
    | _ => none
  | _ => none
def zq_zald (pc' : Nat) : zq_Op := fun lo st μ => match st with
  | .int i :: .ref a :: r => match zq_sh a with
    | (3, n, _) => some ([vp_in i n], pc', lo, .int (μ.1 a i.toNatClampNeg) :: r, μ)
    | _ => none
  | _ => none
def zq_zast (pc' : Nat) : zq_Op := fun lo st μ => match st with
  | .int x :: .int i :: .ref a :: r => match zq_sh a with
    | (3, n, _) => some ([vp_in i n], pc', lo, r, zq_u1 μ a i.toNatClampNeg (vp_nar .boolean x))
    | _ => none
  | _ => none
def zq_aald (pc' : Nat) : zq_Op := fun lo st μ => match st with
  | .int i :: .ref a :: r => match zq_sh a with
    | (4, n, cs) => some ([vp_in i n], pc', lo, .ref (cs.getD i.toNatClampNeg 0) :: r, μ)
    | _ => none
  | _ => none
def zq_alen (pc' : Nat) : zq_Op := fun lo st μ => match st with
  | .ref a :: r => match zq_sh a with
    | (1, n, _) => some ([], pc', lo, .int (Int32.ofNat n) :: r, μ)
    | (2, n, _) => some ([], pc', lo, .int (Int32.ofNat n) :: r, μ)
    | (5, _, _) => some ([], pc', lo, .int (Int32.ofNat μ.2.2.2.1) :: r, μ)
    | _ => none
  | _ => none
theorem zq_u1_ce {g : zq_G} {μ : zq_Me} {a n i : Nat} {cs : List Nat} {x : Int32} (h : zq_sh a = (1, n, cs)) : zq_ce g (zq_u1 μ a i x) a = .inl (zq_cA g 0, (n, .inl (upd (μ.1 a) i x))) := by rw [zq_ce1 h]; simp [zq_u1]
theorem zq_u1_ce3 {g : zq_G} {μ : zq_Me} {a n i : Nat} {cs : List Nat} {x : Int32} (h : zq_sh a = (3, n, cs)) : zq_ce g (zq_u1 μ a i x) a = .inl (zq_cA g 2, (n, .inl (upd (μ.1 a) i x))) := by rw [zq_ce3 h]; simp [zq_u1]
theorem zq_u2_ce {g : zq_G} {μ : zq_Me} {a n i : Nat} {cs : List Nat} {x : Int64} (h : zq_sh a = (2, n, cs)) : zq_ce g (zq_u2 μ a i x) a = .inl (zq_cA g 1, (n, .inr (.inl (vp_updL (μ.2.1 a) i x)))) := by rw [zq_ce2 h]; simp [zq_u2]
theorem zq_ur_ce {g : zq_G} {μ : zq_Me} {a n : Nat} {cs : List Nat} {f : Nat → Int32} (h : zq_sh a = (1, n, cs)) : zq_ce g (zq_ur μ a f) a = .inl (zq_cA g 0, (n, .inl f)) := by rw [zq_ce1 h]; simp [zq_ur]
theorem zq_s_iald {cc : ByteArray} {nL : Nat} {own : String} {rf rl pc : Nat}  (hdg : decode cc pc = .ok (.iaload, 1)) : zq_snd cc nL own rf rl pc (zq_iald (pc + 1)) := by
  intro g p l e R s m args below meth c H locs cells slots Z ls lo st μ P pc' lo' st' μ' hC hS hf hP k
  obtain ⟨hx, hb, hml, hown, hts, hK, hX, hbl, hJ, hrf, hrl, hce, hsl, hdk⟩ := hC
  obtain ⟨hW, hH, hL, hsc⟩ := hS
  unfold zq_iald at hf
  split at hf
  · rename_i i a r
    split at hf
    · rename_i n cs he
      cases hf
      exact va_iald (D := g.1) hx hb hK hW a 0 (zq_row (zq_lt he (by decide)) (zq_ce1 he)) rfl hP.1 hdg (k H locs ls ⟨hW, hH, hL, hsc⟩)
    · rename_i n cs he
      cases hf
      have ha := zq_is5 he
      subst ha
      have k := k H locs ls ⟨hW, hH, hL, hsc⟩
      rw [hsc] at k hP
      exact va_sld hx hb hX hbl (zq_notA hJ) hH hP.1 hdg k
    · cases hf
  · cases hf
theorem zq_s_iast {cc : ByteArray} {nL : Nat} {own : String} {rf rl pc : Nat}  (hdg : decode cc pc = .ok (.iastore, 1)) : zq_snd cc nL own rf rl pc (zq_iast (pc + 1)) := by
  intro g p l e R s m args below meth c H locs cells slots Z ls lo st μ P pc' lo' st' μ' hC hS hf hP k
  obtain ⟨hx, hb, hml, hown, hts, hK, hX, hbl, hJ, hrf, hrl, hce, hsl, hdk⟩ := hC
  obtain ⟨hW, hH, hL, hsc⟩ := hS
  unfold zq_iast at hf
  split at hf
  · rename_i x i a r
    split at hf
    · rename_i n cs he
      cases hf
      refine va_iast (D := g.1) hx hb hK hW (zq_dis hJ μ) hH a 0 (zq_row (zq_lt he (by decide)) (zq_ce1 he)) rfl hP.1 hdg (fun H1 locs1 hP1 _ hS1 => ?_)
      rw [zq_set (zq_u1_ce he) zq_u1_o] at hP1
      exact k H1 locs1 ls ⟨hP1, hS1, hL, hsc⟩
    · cases hf
  · cases hf
theorem zq_s_last {cc : ByteArray} {nL : Nat} {own : String} {rf rl pc : Nat}  (hdg : decode cc pc = .ok (.lastore, 1)) : zq_snd cc nL own rf rl pc (zq_last (pc + 1)) := by
  intro g p l e R s m args below meth c H locs cells slots Z ls lo st μ P pc' lo' st' μ' hC hS hf hP k
  obtain ⟨hx, hb, hml, hown, hts, hK, hX, hbl, hJ, hrf, hrl, hce, hsl, hdk⟩ := hC
  obtain ⟨hW, hH, hL, hsc⟩ := hS
  unfold zq_last at hf
  split at hf
  · rename_i x i a r
    split at hf
    · rename_i n cs he
      cases hf
      refine va_last (D := g.1) hx hb hK hW (zq_dis hJ μ) hH a 1 (zq_row (zq_lt he (by decide)) (zq_ce2 he)) rfl hP.1 hdg (fun H1 locs1 hP1 _ hS1 => ?_)
      rw [zq_set (zq_u2_ce he) zq_u2_o] at hP1
      exact k H1 locs1 ls ⟨hP1, hS1, hL, hsc⟩
    · cases hf
  · cases hf
theorem zq_s_zast {cc : ByteArray} {nL : Nat} {own : String} {rf rl pc : Nat}  (hdg : decode cc pc = .ok (.bastore, 1)) : zq_snd cc nL own rf rl pc (zq_zast (pc + 1)) := by
  intro g p l e R s m args below meth c H locs cells slots Z ls lo st μ P pc' lo' st' μ' hC hS hf hP k
  obtain ⟨hx, hb, hml, hown, hts, hK, hX, hbl, hJ, hrf, hrl, hce, hsl, hdk⟩ := hC
  obtain ⟨hW, hH, hL, hsc⟩ := hS
  unfold zq_zast at hf
  split at hf
  · rename_i x i a r
    split at hf
    · rename_i n cs he
      cases hf
      refine va_zast (D := g.1) hx hb hK hW (zq_dis hJ μ) hH a 2 (zq_row (zq_lt he (by decide)) (zq_ce3 he)) rfl hP.1 hdg (fun H1 locs1 hP1 _ hS1 => ?_)
      rw [zq_set (zq_u1_ce3 he) zq_u1_o] at hP1
      exact k H1 locs1 ls ⟨hP1, hS1, hL, hsc⟩
    · cases hf
  · cases hf
theorem zq_s_lald {cc : ByteArray} {nL : Nat} {own : String} {rf rl pc : Nat}  (hdg : decode cc pc = .ok (.laload, 1)) : zq_snd cc nL own rf rl pc (zq_lald (pc + 1)) := by
  intro g p l e R s m args below meth c H locs cells slots Z ls lo st μ P pc' lo' st' μ' hC hS hf hP k
  obtain ⟨hx, hb, hml, hown, hts, hK, hX, hbl, hJ, hrf, hrl, hce, hsl, hdk⟩ := hC
  obtain ⟨hW, hH, hL, hsc⟩ := hS
  unfold zq_lald at hf
  split at hf
  · rename_i i a r
    split at hf
    · rename_i n cs he
      cases hf
      exact va_lald (D := g.1) hx hb hK hW a 1 (zq_row (zq_lt he (by decide)) (zq_ce2 he)) rfl hP.1 hdg (k H locs ls ⟨hW, hH, hL, hsc⟩)
    · cases hf
  · cases hf
theorem zq_s_zald {cc : ByteArray} {nL : Nat} {own : String} {rf rl pc : Nat}  (hdg : decode cc pc = .ok (.baload, 1)) : zq_snd cc nL own rf rl pc (zq_zald (pc + 1)) := by
  intro g p l e R s m args below meth c H locs cells slots Z ls lo st μ P pc' lo' st' μ' hC hS hf hP k
  obtain ⟨hx, hb, hml, hown, hts, hK, hX, hbl, hJ, hrf, hrl, hce, hsl, hdk⟩ := hC
  obtain ⟨hW, hH, hL, hsc⟩ := hS
  unfold zq_zald at hf
  split at hf
  · rename_i i a r
    split at hf
    · rename_i n cs he
      cases hf
      exact va_zald (D := g.1) hx hb hK hW a 2 (zq_row (zq_lt he (by decide)) (zq_ce3 he)) rfl hP.1 hdg (k H locs ls ⟨hW, hH, hL, hsc⟩)
    · cases hf
  · cases hf
theorem zq_s_aald {cc : ByteArray} {nL : Nat} {own : String} {rf rl pc : Nat}  (hdg : decode cc pc = .ok (.aaload, 1)) : zq_snd cc nL own rf rl pc (zq_aald (pc + 1)) := by
  intro g p l e R s m args below meth c H locs cells slots Z ls lo st μ P pc' lo' st' μ' hC hS hf hP k
  obtain ⟨hx, hb, hml, hown, hts, hK, hX, hbl, hJ, hrf, hrl, hce, hsl, hdk⟩ := hC
  obtain ⟨hW, hH, hL, hsc⟩ := hS
  unfold zq_aald at hf
  split at hf
  · rename_i i a r
    split at hf
    · rename_i n cs he
      cases hf
      exact va_aldq (D := g.1) hx hb hK hW a 3 (zq_row (zq_lt he (by decide)) (zq_ce4 he)) rfl hP.1 hdg (k H locs ls ⟨hW, hH, hL, hsc⟩)
    · cases hf
  · cases hf
theorem zq_s_alen {cc : ByteArray} {nL : Nat} {own : String} {rf rl pc : Nat}  (hdg : decode cc pc = .ok (.arraylength, 1)) : zq_snd cc nL own rf rl pc (zq_alen (pc + 1)) := by
  intro g p l e R s m args below meth c H locs cells slots Z ls lo st μ P pc' lo' st' μ' hC hS hf hP k
  obtain ⟨hx, hb, hml, hown, hts, hK, hX, hbl, hJ, hrf, hrl, hce, hsl, hdk⟩ := hC
  obtain ⟨hW, hH, hL, hsc⟩ := hS
  unfold zq_alen at hf
  split at hf
  · rename_i a r
    split at hf
    · rename_i n cs he
      cases hf
      exact va_alen (D := g.1) hx hb hK hW a 0 (zq_row (zq_lt he (by decide)) (zq_ce1 he)) rfl rfl hdg (k H locs ls ⟨hW, hH, hL, hsc⟩)
    · rename_i n cs he
      cases hf
      exact va_alen (D := g.1) hx hb hK hW a 1 (zq_row (zq_lt he (by decide)) (zq_ce2 he)) rfl rfl hdg (k H locs ls ⟨hW, hH, hL, hsc⟩)
    · rename_i n cs he
      cases hf
      have ha := zq_is5 he
      subst ha
      have k := k H locs ls ⟨hW, hH, hL, hsc⟩
      rw [hsc] at k
      exact va_slen hx hb hX hbl (zq_notA hJ) hH hdg k
    · cases hf
  · cases hf
def zq_cats (r : List Value) : Nat := (r.map fun v => v.category).sum
theorem zq_cats_map (g : zq_G) (r : List Value) : ((r.map (zq_cv g)).map fun v => v.category).sum = zq_cats r := by
  unfold zq_cats
  rw [List.map_map]
  congr 1
  apply List.map_congr_left
  intro v _
  exact zq_cv_cat g v
def zq_mm (pc' : Nat) (f : Int32 → Int32 → Int32) : zq_Op := fun lo st μ => match st with
  | .int y :: .int x :: r => bif Nat.ble (zq_cats r) 8 then some ([], pc', lo, .int (f x y) :: r, μ) else none
  | _ => none
def zq_copy (pc' : Nat) : zq_Op := fun lo st μ => match st with
  | .int n :: .int dp :: .ref b :: .int sp :: .ref a :: r => match zq_sh a, zq_sh b with
    | (1, n0, _), (1, n1, _) => bif Nat.ble (zq_cats r) 8 then some ([¬ sp < 0 ∧ ¬ dp < 0 ∧ ¬ n < 0 ∧ sp.toNatClampNeg + n.toNatClampNeg ≤ n0 ∧ dp.toNatClampNeg + n.toNatClampNeg ≤ n1], pc', lo, r, zq_ur μ b (va_cpy (μ.1 a) (μ.1 b) sp.toNatClampNeg dp.toNatClampNeg n.toNatClampNeg)) else none
    | _, _ => none
  | _ => none
theorem zq_s_mmax {cc : ByteArray} {nL : Nat} {own : String} {rf rl pc : Nat} {index : Nat} (hdg : decode cc pc = .ok (.invokestatic index, 3)) (h1 : Cond.methodLink own index Lib.Math.max.name ∈ zq_W) (h2 : Cond.static Lib.Math.max.name ∈ zq_W) (h3 : Cond.initialized "java/lang/Math" ∈ zq_W) (h4 : Cond.code Lib.Math.max.name Lib.Math.max.code 2 (some .int) ∈ zq_W) (h5 : 1 ≤ rf) (h6 : 21 ≤ rl) : zq_snd cc nL own rf rl pc (zq_mm (pc + 3) (fun x y => if x < y then y else x)) := by
  intro g p l e R s m args below meth c H locs cells slots Z ls lo st μ P pc' lo' st' μ' hC hS hf hP k
  obtain ⟨hx, hb, hml, hown, hts, hK, hX, hbl, hJ, hrf, hrl, hce, hsl, hdk⟩ := hC
  obtain ⟨hW, hH, hL, hsc⟩ := hS
  unfold zq_mm at hf
  split at hf
  · rename_i y x r
    cases hb9 : Nat.ble (zq_cats r) 8 with
    | false => rw [hb9] at hf; cases hf
    | true =>
      rw [hb9] at hf
      cases hf
      have h9 := Nat.le_of_ble_eq_true hb9
      exact va_mmax hx hb (hml.trans hL.1.symm) hown (hts _ h1) (hts _ h2) (hts _ h3) (hts _ h4) (by omega) (by rw [zq_cats_map]; omega) hce hsl hdg (k H locs ls ⟨hW, hH, hL, hsc⟩)
  · cases hf
theorem zq_s_mmin {cc : ByteArray} {nL : Nat} {own : String} {rf rl pc : Nat} {index : Nat} (hdg : decode cc pc = .ok (.invokestatic index, 3)) (h1 : Cond.methodLink own index Lib.Math.min.name ∈ zq_W) (h2 : Cond.static Lib.Math.min.name ∈ zq_W) (h3 : Cond.initialized "java/lang/Math" ∈ zq_W) (h4 : Cond.code Lib.Math.min.name Lib.Math.min.code 2 (some .int) ∈ zq_W) (h5 : 1 ≤ rf) (h6 : 21 ≤ rl) : zq_snd cc nL own rf rl pc (zq_mm (pc + 3) (fun x y => if y < x then y else x)) := by
  intro g p l e R s m args below meth c H locs cells slots Z ls lo st μ P pc' lo' st' μ' hC hS hf hP k
  obtain ⟨hx, hb, hml, hown, hts, hK, hX, hbl, hJ, hrf, hrl, hce, hsl, hdk⟩ := hC
  obtain ⟨hW, hH, hL, hsc⟩ := hS
  unfold zq_mm at hf
  split at hf
  · rename_i y x r
    cases hb9 : Nat.ble (zq_cats r) 8 with
    | false => rw [hb9] at hf; cases hf
    | true =>
      rw [hb9] at hf
      cases hf
      have h9 := Nat.le_of_ble_eq_true hb9
      exact va_mmin hx hb (hml.trans hL.1.symm) hown (hts _ h1) (hts _ h2) (hts _ h3) (hts _ h4) (by omega) (by rw [zq_cats_map]; omega) hce hsl hdg (k H locs ls ⟨hW, hH, hL, hsc⟩)
  · cases hf
theorem zq_s_copy {cc : ByteArray} {nL : Nat} {own : String} {rf rl pc : Nat} {index : Nat} (hdg : decode cc pc = .ok (.invokestatic index, 3)) (h1 : Cond.methodLink own index arraycopyName ∈ zq_W) (h2 : Cond.native arraycopyName ∈ zq_W) (h3 : Cond.static arraycopyName ∈ zq_W) (h4 : Cond.initialized "java/lang/System" ∈ zq_W) (h5 : 1 ≤ rf) (h6 : 8 + (nativeFrameWords "java/lang/System" "arraycopy" 5 + 11) ≤ rl) : zq_snd cc nL own rf rl pc (zq_copy (pc + 3)) := by
  intro g p l e R s m args below meth c H locs cells slots Z ls lo st μ P pc' lo' st' μ' hC hS hf hP k
  obtain ⟨hx, hb, hml, hown, hts, hK, hX, hbl, hJ, hrf, hrl, hce, hsl, hdk⟩ := hC
  obtain ⟨hW, hH, hL, hsc⟩ := hS
  unfold zq_copy at hf
  split at hf
  · rename_i n dp b sp a r
    split at hf
    · rename_i n0 cs0 n1 cs1 ha hb0
      cases hb9 : Nat.ble (zq_cats r) 8 with
      | false => rw [hb9] at hf; cases hf
      | true =>
        rw [hb9] at hf
        cases hf
        have h9 := Nat.le_of_ble_eq_true hb9
        obtain ⟨⟨g1, g2, g3, g4, g5⟩, -⟩ := hP
        refine va_copyi (D := g.1) hx hb (hml.trans hL.1.symm) hown (hts _ h1) (hts _ h2) (hts _ h3) (hts _ h4) hK hW (zq_dis hJ μ) hH a b 0 0 (zq_row (zq_lt ha (by decide)) (zq_ce1 ha)) (zq_row (zq_lt hb0 (by decide)) (zq_ce1 hb0)) rfl rfl rfl g1 g2 g3 g4 g5 (fun _ _ => rfl) (by omega) (by rw [zq_cats_map]; omega) hdg (fun H1 locs1 hP1 _ hS1 => ?_)
        rw [zq_set (zq_ur_ce hb0) zq_ur_o] at hP1
        exact k H1 locs1 ls ⟨hP1, hS1, hL, hsc⟩
    · cases hf
  · cases hf
