/-! ===== digest ===== -/
def ymx (h l : Int64) : Int64 := 31 * h + l
def yD1 (τ : zTd) (S : zES) (H : zSH) : Int64 := ymx (ymx (ymx (ymx (ymx (ymx (ymx (ymx 17 ((yCnt τ S H 0).toInt64)) ((yCnt τ S H 1).toInt64)) ((yCnt τ S H 2).toInt64)) ((yCnt τ S H 3).toInt64)) ((yCnt τ S H 4).toInt64)) ((yCnt τ S H 5).toInt64)) ((yCnt τ S H 6).toInt64)) ((yCnt τ S H 7).toInt64)
def yD2 (τ : zTd) (h : Int64) : Int64 := ymx (ymx h ((zdn (ztf (zok1 (yb0 τ)) 3 (yn0 τ))).toInt64)) ((zdn (ztf (zok6 (yb1 τ)) 4 (yn1 τ))).toInt64)
def yD3 (τ : zTd) (h : Int64) : Nat → Int64
  | 0 => h
  | d + 1 => ymx (ymx (yD3 τ h d) ((nI (yDoor τ d 0)).toInt64)) ((nI (yDoor τ d 1)).toInt64)
def yD4 (τ : zTd) (h : Int64) : Nat → Int64
  | 0 => h
  | r + 1 => ymx (ymx (ymx (yD4 τ h r) ((nI (zemp (ynp τ) (yRt τ 0) r)).toInt64)) ((yFar τ 9 r 0).toInt64)) ((yFar τ 23 r 5).toInt64)
def yStay (τ : zTd) (h : Int64) (p : Nat) : Int64 := ymx (ymx (ymx (ymx (ymx (ymx (ymx (ymx (ymx (ymx (ymx h ((nI (yPers τ p 0)).toInt64)) ((nI (yPers τ p 1)).toInt64)) ((nI (yPers τ p 2)).toInt64)) ((yAt τ 0 p 0).toInt64)) ((yAt τ 0 p 1).toInt64)) ((yAt τ 5 p 0).toInt64)) ((yAt τ 5 p 1).toInt64)) ((yAt τ 12 p 0).toInt64)) ((yAt τ 12 p 1).toInt64)) ((yAt τ 23 p 0).toInt64)) ((yAt τ 23 p 1).toInt64)
def yGuess (τ : zTd) (S : zES) (h : Int64) (p : Nat) : Int64 := ymx (ymx (ymx (ymx (ymx (ymx (ymx h ((nI (ySl (ysf τ p) 0)).toInt64)) ((nI (ySl (ysf τ p) 1)).toInt64)) ((nI (yWas τ S p 0)).toInt64)) ((nI (yWas τ S p 1)).toInt64)) ((nI (yan2 (yaf τ S p) 24).2).toInt64)) (zL (yCh (zod τ 5 14 p) (4 * yne τ) 0))) (zL (yCh (zod τ 5 14 p) (4 * yne τ) 1))
def yMt (τ : zTd) (p : Nat) : Int64 := if p = 0 then 0 else (yMeet τ 0 p).toInt64
def yPrs (τ : zTd) (S : zES) (h : Int64) (p : Nat) : Int64 := ymx (yGuess τ S (yStay τ h p) p) (yMt τ p)
def yD5 (τ : zTd) (S : zES) (h : Int64) : Nat → Int64
  | 0 => h
  | p + 1 => yPrs τ S (yD5 τ S h p) p
def yD6 (τ : zTd) (h : Int64) : Int64 := ymx (ymx (ymx (ymx (ymx (ymx (ymx h ((zfv (ysr τ) (ynp τ) (yRt τ 0) (nI 0)).toInt64)) ((zfv (ysr τ) (ynp τ) (yRt τ 0) (nI 1)).toInt64)) ((zfv (ysr τ) (ynp τ) (yRt τ 0) (nI 2)).toInt64)) ((nI (yCrowd τ 0)).toInt64)) ((nI (yCrowd τ 1)).toInt64)) ((nI (yCrowd τ 2)).toInt64)) ((nI (zal (ynp τ) (yRt τ 0) 23)).toInt64)
def yD7 (τ : zTd) (h : Int64) : Int64 := ymx (ymx (ymx (ymx h ((nI (ySl (ynf τ 8) 0)).toInt64)) ((nI (ySl (ynf τ 8) 1)).toInt64)) ((yLe τ 0).toInt64)) ((yLe τ 1).toInt64)
def yD8 (τ : zTd) (S : zES) (h : Int64) : Int64 := ymx (ymx (ymx (ymx (ymx h ((ySv τ (-1)).toInt64)) ((ySv τ (nI 0)).toInt64)) ((nI (zm (ynv τ S) (yne τ))).toInt64)) ((nI (yWk τ (nI 7) 6 0)).toInt64)) ((nI (yWk τ (nI 7) 6 1)).toInt64)
def yDg (τ : zTd) (S : zES) (H : zSH) : Int64 := yD8 τ S (yD7 τ (yD6 τ (yD5 τ S (yD4 τ (yD3 τ (yD2 τ (yD1 τ S H)) (ynd τ)) 8) (ynp τ))))
theorem ySv_m (τ : zTd) : ySv τ (-1) = ySpn τ := by
  unfold ySv ySpn
  rw [if_pos rfl, if_pos rfl, if_pos rfl]
set_option maxRecDepth 100000 in
set_option maxHeartbeats 400000 in
theorem zs_mix (h l : Int64) (μ : zq_Me) : zq_Wp zn_X8_mix 0 [(0, .long h), (2, .long l)] [] μ (fun r μ1 => r = some (.long (ymx h l)) ∧ μ = μ1) := by
  refine zq_go zt_X8_mix 5 [] 7 [(0, .long h), (2, .long l)] [.long ((31 * h) + l)] μ rfl trivial ?_
  exact zq_retn zt_X8_mix rfl rfl (⟨rfl, rfl⟩)
set_option maxRecDepth 100000 in
set_option maxHeartbeats 400000 in
theorem zs_stays {τ : zTd} {S : zES} {H : zSH} {μ0 : zq_Me} {h : Int64} {p : Nat} (lp : p < ynp τ) (hC : zIc τ S H μ0) : zq_Wp zn_X8_mixStays 0 [(0, .ref 0), (1, .long h), (3, .int (nI p))] [] μ0 (zRc (.long (yStay τ h p)) τ S H μ0) := by
  have hnp := hC.2.1.2.1
  refine zq_go zt_X8_mixStays 7 [] (if (nI 2) < (nI 0) then 33 else 12) [(0, .ref 0), (1, .long h), (3, .int (nI p)), (4, .long h), (6, .int (nI 0))] [] μ0 rfl trivial ?_
  rw [if_neg (by decide)]
  refine zq_go zt_X8_mixStays 4 [] 18 [(0, .ref 0), (1, .long h), (3, .int (nI p)), (4, .long h), (6, .int (nI 0))] [.int (nI 0), .int (nI p), .ref 0, .long h] μ0 rfl trivial ?_
  refine zq_call zt_X8_mixStays [.ref 0, .int (nI p), .int (nI 0)] [.long h] (zs_person (w := 0) lp (by decide) hC) rfl rfl ?_
  rintro _ μ1 ⟨rfl, i1, g1⟩
  have f1 := g1
  refine zq_go zt_X8_mixStays 1 [] 22 [(0, .ref 0), (1, .long h), (3, .int (nI p)), (4, .long h), (6, .int (nI 0))] [.long ((nI (yPers τ p 0)).toInt64), .long h] μ1 rfl trivial ?_
  refine zq_call zt_X8_mixStays [.long h, .long ((nI (yPers τ p 0)).toInt64)] [] (zs_mix h ((nI (yPers τ p 0)).toInt64) μ1) rfl rfl ?_
  rintro _ _ ⟨rfl, rfl⟩
  refine zq_go zt_X8_mixStays 3 [] 6 [(0, .ref 0), (1, .long h), (3, .int (nI p)), (4, .long (ymx h ((nI (yPers τ p 0)).toInt64))), (6, .int ((nI 0) + (nI 1)))] [] μ1 rfl trivial ?_
  rw [zn_add 0 1]
  rw [show nI (0 + 1) = nI 1 from rfl]
  refine zq_go zt_X8_mixStays 3 [] (if (nI 2) < (nI 1) then 33 else 12) [(0, .ref 0), (1, .long h), (3, .int (nI p)), (4, .long (ymx h ((nI (yPers τ p 0)).toInt64))), (6, .int (nI 1))] [] μ1 rfl trivial ?_
  rw [if_neg (by decide)]
  refine zq_go zt_X8_mixStays 4 [] 18 [(0, .ref 0), (1, .long h), (3, .int (nI p)), (4, .long (ymx h ((nI (yPers τ p 0)).toInt64))), (6, .int (nI 1))] [.int (nI 1), .int (nI p), .ref 0, .long (ymx h ((nI (yPers τ p 0)).toInt64))] μ1 rfl trivial ?_
  refine zq_call zt_X8_mixStays [.ref 0, .int (nI p), .int (nI 1)] [.long (ymx h ((nI (yPers τ p 0)).toInt64))] (zs_person (w := 1) lp (by decide) i1) rfl rfl ?_
  rintro _ μ2 ⟨rfl, i2, g2⟩
  have f2 := (f1).tr g2
  refine zq_go zt_X8_mixStays 1 [] 22 [(0, .ref 0), (1, .long h), (3, .int (nI p)), (4, .long (ymx h ((nI (yPers τ p 0)).toInt64))), (6, .int (nI 1))] [.long ((nI (yPers τ p 1)).toInt64), .long (ymx h ((nI (yPers τ p 0)).toInt64))] μ2 rfl trivial ?_
  refine zq_call zt_X8_mixStays [.long (ymx h ((nI (yPers τ p 0)).toInt64)), .long ((nI (yPers τ p 1)).toInt64)] [] (zs_mix (ymx h ((nI (yPers τ p 0)).toInt64)) ((nI (yPers τ p 1)).toInt64) μ2) rfl rfl ?_
  rintro _ _ ⟨rfl, rfl⟩
  refine zq_go zt_X8_mixStays 3 [] 6 [(0, .ref 0), (1, .long h), (3, .int (nI p)), (4, .long (ymx (ymx h ((nI (yPers τ p 0)).toInt64)) ((nI (yPers τ p 1)).toInt64))), (6, .int ((nI 1) + (nI 1)))] [] μ2 rfl trivial ?_
  rw [zn_add 1 1]
  rw [show nI (1 + 1) = nI 2 from rfl]
  refine zq_go zt_X8_mixStays 3 [] (if (nI 2) < (nI 2) then 33 else 12) [(0, .ref 0), (1, .long h), (3, .int (nI p)), (4, .long (ymx (ymx h ((nI (yPers τ p 0)).toInt64)) ((nI (yPers τ p 1)).toInt64))), (6, .int (nI 2))] [] μ2 rfl trivial ?_
  rw [if_neg (by decide)]
  refine zq_go zt_X8_mixStays 4 [] 18 [(0, .ref 0), (1, .long h), (3, .int (nI p)), (4, .long (ymx (ymx h ((nI (yPers τ p 0)).toInt64)) ((nI (yPers τ p 1)).toInt64))), (6, .int (nI 2))] [.int (nI 2), .int (nI p), .ref 0, .long (ymx (ymx h ((nI (yPers τ p 0)).toInt64)) ((nI (yPers τ p 1)).toInt64))] μ2 rfl trivial ?_
  refine zq_call zt_X8_mixStays [.ref 0, .int (nI p), .int (nI 2)] [.long (ymx (ymx h ((nI (yPers τ p 0)).toInt64)) ((nI (yPers τ p 1)).toInt64))] (zs_person (w := 2) lp (by decide) i2) rfl rfl ?_
  rintro _ μ3 ⟨rfl, i3, g3⟩
  have f3 := (f2).tr g3
  refine zq_go zt_X8_mixStays 1 [] 22 [(0, .ref 0), (1, .long h), (3, .int (nI p)), (4, .long (ymx (ymx h ((nI (yPers τ p 0)).toInt64)) ((nI (yPers τ p 1)).toInt64))), (6, .int (nI 2))] [.long ((nI (yPers τ p 2)).toInt64), .long (ymx (ymx h ((nI (yPers τ p 0)).toInt64)) ((nI (yPers τ p 1)).toInt64))] μ3 rfl trivial ?_
  refine zq_call zt_X8_mixStays [.long (ymx (ymx h ((nI (yPers τ p 0)).toInt64)) ((nI (yPers τ p 1)).toInt64)), .long ((nI (yPers τ p 2)).toInt64)] [] (zs_mix (ymx (ymx h ((nI (yPers τ p 0)).toInt64)) ((nI (yPers τ p 1)).toInt64)) ((nI (yPers τ p 2)).toInt64) μ3) rfl rfl ?_
  rintro _ _ ⟨rfl, rfl⟩
  refine zq_go zt_X8_mixStays 3 [] 6 [(0, .ref 0), (1, .long h), (3, .int (nI p)), (4, .long (ymx (ymx (ymx h ((nI (yPers τ p 0)).toInt64)) ((nI (yPers τ p 1)).toInt64)) ((nI (yPers τ p 2)).toInt64))), (6, .int ((nI 2) + (nI 1)))] [] μ3 rfl trivial ?_
  rw [zn_add 2 1]
  rw [show nI (2 + 1) = nI 3 from rfl]
  refine zq_go zt_X8_mixStays 3 [] (if (nI 2) < (nI 3) then 33 else 12) [(0, .ref 0), (1, .long h), (3, .int (nI p)), (4, .long (ymx (ymx (ymx h ((nI (yPers τ p 0)).toInt64)) ((nI (yPers τ p 1)).toInt64)) ((nI (yPers τ p 2)).toInt64))), (6, .int (nI 3))] [] μ3 rfl trivial ?_
  rw [if_pos (by decide)]
  refine zq_go zt_X8_mixStays 5 [] 39 [(0, .ref 0), (1, .long h), (3, .int (nI p)), (4, .long (ymx (ymx (ymx h ((nI (yPers τ p 0)).toInt64)) ((nI (yPers τ p 1)).toInt64)) ((nI (yPers τ p 2)).toInt64))), (6, .int (nI 3))] [.int (nI 0), .int (nI p), .int (nI 0), .ref 0, .long (ymx (ymx (ymx h ((nI (yPers τ p 0)).toInt64)) ((nI (yPers τ p 1)).toInt64)) ((nI (yPers τ p 2)).toInt64))] μ3 rfl trivial ?_
  have q4 := zs_at (nI 0) (nI p) (nI 0) i3
  rw [vAt_eq (by decide) lp (by decide) hnp] at q4
  refine zq_call zt_X8_mixStays [.ref 0, .int (nI 0), .int (nI p), .int (nI 0)] [.long (ymx (ymx (ymx h ((nI (yPers τ p 0)).toInt64)) ((nI (yPers τ p 1)).toInt64)) ((nI (yPers τ p 2)).toInt64))] (q4) rfl rfl ?_
  rintro _ μ4 ⟨rfl, i4, g4⟩
  have f4 := (f3).tr g4
  refine zq_go zt_X8_mixStays 1 [] 43 [(0, .ref 0), (1, .long h), (3, .int (nI p)), (4, .long (ymx (ymx (ymx h ((nI (yPers τ p 0)).toInt64)) ((nI (yPers τ p 1)).toInt64)) ((nI (yPers τ p 2)).toInt64))), (6, .int (nI 3))] [.long ((yAt τ 0 p 0).toInt64), .long (ymx (ymx (ymx h ((nI (yPers τ p 0)).toInt64)) ((nI (yPers τ p 1)).toInt64)) ((nI (yPers τ p 2)).toInt64))] μ4 rfl trivial ?_
  refine zq_call zt_X8_mixStays [.long (ymx (ymx (ymx h ((nI (yPers τ p 0)).toInt64)) ((nI (yPers τ p 1)).toInt64)) ((nI (yPers τ p 2)).toInt64)), .long ((yAt τ 0 p 0).toInt64)] [] (zs_mix (ymx (ymx (ymx h ((nI (yPers τ p 0)).toInt64)) ((nI (yPers τ p 1)).toInt64)) ((nI (yPers τ p 2)).toInt64)) ((yAt τ 0 p 0).toInt64) μ4) rfl rfl ?_
  rintro _ _ ⟨rfl, rfl⟩
  refine zq_go zt_X8_mixStays 4 [] 50 [(0, .ref 0), (1, .long h), (3, .int (nI p)), (4, .long (ymx (ymx (ymx h ((nI (yPers τ p 0)).toInt64)) ((nI (yPers τ p 1)).toInt64)) ((nI (yPers τ p 2)).toInt64))), (6, .int (nI 3))] [.int (nI 1), .int (nI p), .int (nI 0), .ref 0, .long (ymx (ymx (ymx (ymx h ((nI (yPers τ p 0)).toInt64)) ((nI (yPers τ p 1)).toInt64)) ((nI (yPers τ p 2)).toInt64)) ((yAt τ 0 p 0).toInt64))] μ4 rfl trivial ?_
  have q5 := zs_at (nI 0) (nI p) (nI 1) i4
  rw [vAt_eq (by decide) lp (by decide) hnp] at q5
  refine zq_call zt_X8_mixStays [.ref 0, .int (nI 0), .int (nI p), .int (nI 1)] [.long (ymx (ymx (ymx (ymx h ((nI (yPers τ p 0)).toInt64)) ((nI (yPers τ p 1)).toInt64)) ((nI (yPers τ p 2)).toInt64)) ((yAt τ 0 p 0).toInt64))] (q5) rfl rfl ?_
  rintro _ μ5 ⟨rfl, i5, g5⟩
  have f5 := (f4).tr g5
  refine zq_go zt_X8_mixStays 1 [] 54 [(0, .ref 0), (1, .long h), (3, .int (nI p)), (4, .long (ymx (ymx (ymx h ((nI (yPers τ p 0)).toInt64)) ((nI (yPers τ p 1)).toInt64)) ((nI (yPers τ p 2)).toInt64))), (6, .int (nI 3))] [.long ((yAt τ 0 p 1).toInt64), .long (ymx (ymx (ymx (ymx h ((nI (yPers τ p 0)).toInt64)) ((nI (yPers τ p 1)).toInt64)) ((nI (yPers τ p 2)).toInt64)) ((yAt τ 0 p 0).toInt64))] μ5 rfl trivial ?_
  refine zq_call zt_X8_mixStays [.long (ymx (ymx (ymx (ymx h ((nI (yPers τ p 0)).toInt64)) ((nI (yPers τ p 1)).toInt64)) ((nI (yPers τ p 2)).toInt64)) ((yAt τ 0 p 0).toInt64)), .long ((yAt τ 0 p 1).toInt64)] [] (zs_mix (ymx (ymx (ymx (ymx h ((nI (yPers τ p 0)).toInt64)) ((nI (yPers τ p 1)).toInt64)) ((nI (yPers τ p 2)).toInt64)) ((yAt τ 0 p 0).toInt64)) ((yAt τ 0 p 1).toInt64) μ5) rfl rfl ?_
  rintro _ _ ⟨rfl, rfl⟩
  refine zq_go zt_X8_mixStays 6 [] 65 [(0, .ref 0), (1, .long h), (3, .int (nI p)), (4, .long (ymx (ymx (ymx (ymx (ymx h ((nI (yPers τ p 0)).toInt64)) ((nI (yPers τ p 1)).toInt64)) ((nI (yPers τ p 2)).toInt64)) ((yAt τ 0 p 0).toInt64)) ((yAt τ 0 p 1).toInt64))), (6, .int (nI 3))] [.int (nI 0), .int (nI p), .int (nI 5), .ref 0, .long (ymx (ymx (ymx (ymx (ymx h ((nI (yPers τ p 0)).toInt64)) ((nI (yPers τ p 1)).toInt64)) ((nI (yPers τ p 2)).toInt64)) ((yAt τ 0 p 0).toInt64)) ((yAt τ 0 p 1).toInt64))] μ5 rfl trivial ?_
  have q6 := zs_at (nI 5) (nI p) (nI 0) i5
  rw [vAt_eq (by decide) lp (by decide) hnp] at q6
  refine zq_call zt_X8_mixStays [.ref 0, .int (nI 5), .int (nI p), .int (nI 0)] [.long (ymx (ymx (ymx (ymx (ymx h ((nI (yPers τ p 0)).toInt64)) ((nI (yPers τ p 1)).toInt64)) ((nI (yPers τ p 2)).toInt64)) ((yAt τ 0 p 0).toInt64)) ((yAt τ 0 p 1).toInt64))] (q6) rfl rfl ?_
  rintro _ μ6 ⟨rfl, i6, g6⟩
  have f6 := (f5).tr g6
  refine zq_go zt_X8_mixStays 1 [] 69 [(0, .ref 0), (1, .long h), (3, .int (nI p)), (4, .long (ymx (ymx (ymx (ymx (ymx h ((nI (yPers τ p 0)).toInt64)) ((nI (yPers τ p 1)).toInt64)) ((nI (yPers τ p 2)).toInt64)) ((yAt τ 0 p 0).toInt64)) ((yAt τ 0 p 1).toInt64))), (6, .int (nI 3))] [.long ((yAt τ 5 p 0).toInt64), .long (ymx (ymx (ymx (ymx (ymx h ((nI (yPers τ p 0)).toInt64)) ((nI (yPers τ p 1)).toInt64)) ((nI (yPers τ p 2)).toInt64)) ((yAt τ 0 p 0).toInt64)) ((yAt τ 0 p 1).toInt64))] μ6 rfl trivial ?_
  refine zq_call zt_X8_mixStays [.long (ymx (ymx (ymx (ymx (ymx h ((nI (yPers τ p 0)).toInt64)) ((nI (yPers τ p 1)).toInt64)) ((nI (yPers τ p 2)).toInt64)) ((yAt τ 0 p 0).toInt64)) ((yAt τ 0 p 1).toInt64)), .long ((yAt τ 5 p 0).toInt64)] [] (zs_mix (ymx (ymx (ymx (ymx (ymx h ((nI (yPers τ p 0)).toInt64)) ((nI (yPers τ p 1)).toInt64)) ((nI (yPers τ p 2)).toInt64)) ((yAt τ 0 p 0).toInt64)) ((yAt τ 0 p 1).toInt64)) ((yAt τ 5 p 0).toInt64) μ6) rfl rfl ?_
  rintro _ _ ⟨rfl, rfl⟩
  refine zq_go zt_X8_mixStays 4 [] 76 [(0, .ref 0), (1, .long h), (3, .int (nI p)), (4, .long (ymx (ymx (ymx (ymx (ymx h ((nI (yPers τ p 0)).toInt64)) ((nI (yPers τ p 1)).toInt64)) ((nI (yPers τ p 2)).toInt64)) ((yAt τ 0 p 0).toInt64)) ((yAt τ 0 p 1).toInt64))), (6, .int (nI 3))] [.int (nI 1), .int (nI p), .int (nI 5), .ref 0, .long (ymx (ymx (ymx (ymx (ymx (ymx h ((nI (yPers τ p 0)).toInt64)) ((nI (yPers τ p 1)).toInt64)) ((nI (yPers τ p 2)).toInt64)) ((yAt τ 0 p 0).toInt64)) ((yAt τ 0 p 1).toInt64)) ((yAt τ 5 p 0).toInt64))] μ6 rfl trivial ?_
  have q7 := zs_at (nI 5) (nI p) (nI 1) i6
  rw [vAt_eq (by decide) lp (by decide) hnp] at q7
  refine zq_call zt_X8_mixStays [.ref 0, .int (nI 5), .int (nI p), .int (nI 1)] [.long (ymx (ymx (ymx (ymx (ymx (ymx h ((nI (yPers τ p 0)).toInt64)) ((nI (yPers τ p 1)).toInt64)) ((nI (yPers τ p 2)).toInt64)) ((yAt τ 0 p 0).toInt64)) ((yAt τ 0 p 1).toInt64)) ((yAt τ 5 p 0).toInt64))] (q7) rfl rfl ?_
  rintro _ μ7 ⟨rfl, i7, g7⟩
  have f7 := (f6).tr g7
  refine zq_go zt_X8_mixStays 1 [] 80 [(0, .ref 0), (1, .long h), (3, .int (nI p)), (4, .long (ymx (ymx (ymx (ymx (ymx h ((nI (yPers τ p 0)).toInt64)) ((nI (yPers τ p 1)).toInt64)) ((nI (yPers τ p 2)).toInt64)) ((yAt τ 0 p 0).toInt64)) ((yAt τ 0 p 1).toInt64))), (6, .int (nI 3))] [.long ((yAt τ 5 p 1).toInt64), .long (ymx (ymx (ymx (ymx (ymx (ymx h ((nI (yPers τ p 0)).toInt64)) ((nI (yPers τ p 1)).toInt64)) ((nI (yPers τ p 2)).toInt64)) ((yAt τ 0 p 0).toInt64)) ((yAt τ 0 p 1).toInt64)) ((yAt τ 5 p 0).toInt64))] μ7 rfl trivial ?_
  refine zq_call zt_X8_mixStays [.long (ymx (ymx (ymx (ymx (ymx (ymx h ((nI (yPers τ p 0)).toInt64)) ((nI (yPers τ p 1)).toInt64)) ((nI (yPers τ p 2)).toInt64)) ((yAt τ 0 p 0).toInt64)) ((yAt τ 0 p 1).toInt64)) ((yAt τ 5 p 0).toInt64)), .long ((yAt τ 5 p 1).toInt64)] [] (zs_mix (ymx (ymx (ymx (ymx (ymx (ymx h ((nI (yPers τ p 0)).toInt64)) ((nI (yPers τ p 1)).toInt64)) ((nI (yPers τ p 2)).toInt64)) ((yAt τ 0 p 0).toInt64)) ((yAt τ 0 p 1).toInt64)) ((yAt τ 5 p 0).toInt64)) ((yAt τ 5 p 1).toInt64) μ7) rfl rfl ?_
  rintro _ _ ⟨rfl, rfl⟩
  refine zq_go zt_X8_mixStays 6 [] 92 [(0, .ref 0), (1, .long h), (3, .int (nI p)), (4, .long (ymx (ymx (ymx (ymx (ymx (ymx (ymx h ((nI (yPers τ p 0)).toInt64)) ((nI (yPers τ p 1)).toInt64)) ((nI (yPers τ p 2)).toInt64)) ((yAt τ 0 p 0).toInt64)) ((yAt τ 0 p 1).toInt64)) ((yAt τ 5 p 0).toInt64)) ((yAt τ 5 p 1).toInt64))), (6, .int (nI 3))] [.int (nI 0), .int (nI p), .int (nI 12), .ref 0, .long (ymx (ymx (ymx (ymx (ymx (ymx (ymx h ((nI (yPers τ p 0)).toInt64)) ((nI (yPers τ p 1)).toInt64)) ((nI (yPers τ p 2)).toInt64)) ((yAt τ 0 p 0).toInt64)) ((yAt τ 0 p 1).toInt64)) ((yAt τ 5 p 0).toInt64)) ((yAt τ 5 p 1).toInt64))] μ7 rfl trivial ?_
  have q8 := zs_at (nI 12) (nI p) (nI 0) i7
  rw [vAt_eq (by decide) lp (by decide) hnp] at q8
  refine zq_call zt_X8_mixStays [.ref 0, .int (nI 12), .int (nI p), .int (nI 0)] [.long (ymx (ymx (ymx (ymx (ymx (ymx (ymx h ((nI (yPers τ p 0)).toInt64)) ((nI (yPers τ p 1)).toInt64)) ((nI (yPers τ p 2)).toInt64)) ((yAt τ 0 p 0).toInt64)) ((yAt τ 0 p 1).toInt64)) ((yAt τ 5 p 0).toInt64)) ((yAt τ 5 p 1).toInt64))] (q8) rfl rfl ?_
  rintro _ μ8 ⟨rfl, i8, g8⟩
  have f8 := (f7).tr g8
  refine zq_go zt_X8_mixStays 1 [] 96 [(0, .ref 0), (1, .long h), (3, .int (nI p)), (4, .long (ymx (ymx (ymx (ymx (ymx (ymx (ymx h ((nI (yPers τ p 0)).toInt64)) ((nI (yPers τ p 1)).toInt64)) ((nI (yPers τ p 2)).toInt64)) ((yAt τ 0 p 0).toInt64)) ((yAt τ 0 p 1).toInt64)) ((yAt τ 5 p 0).toInt64)) ((yAt τ 5 p 1).toInt64))), (6, .int (nI 3))] [.long ((yAt τ 12 p 0).toInt64), .long (ymx (ymx (ymx (ymx (ymx (ymx (ymx h ((nI (yPers τ p 0)).toInt64)) ((nI (yPers τ p 1)).toInt64)) ((nI (yPers τ p 2)).toInt64)) ((yAt τ 0 p 0).toInt64)) ((yAt τ 0 p 1).toInt64)) ((yAt τ 5 p 0).toInt64)) ((yAt τ 5 p 1).toInt64))] μ8 rfl trivial ?_
  refine zq_call zt_X8_mixStays [.long (ymx (ymx (ymx (ymx (ymx (ymx (ymx h ((nI (yPers τ p 0)).toInt64)) ((nI (yPers τ p 1)).toInt64)) ((nI (yPers τ p 2)).toInt64)) ((yAt τ 0 p 0).toInt64)) ((yAt τ 0 p 1).toInt64)) ((yAt τ 5 p 0).toInt64)) ((yAt τ 5 p 1).toInt64)), .long ((yAt τ 12 p 0).toInt64)] [] (zs_mix (ymx (ymx (ymx (ymx (ymx (ymx (ymx h ((nI (yPers τ p 0)).toInt64)) ((nI (yPers τ p 1)).toInt64)) ((nI (yPers τ p 2)).toInt64)) ((yAt τ 0 p 0).toInt64)) ((yAt τ 0 p 1).toInt64)) ((yAt τ 5 p 0).toInt64)) ((yAt τ 5 p 1).toInt64)) ((yAt τ 12 p 0).toInt64) μ8) rfl rfl ?_
  rintro _ _ ⟨rfl, rfl⟩
  refine zq_go zt_X8_mixStays 4 [] 104 [(0, .ref 0), (1, .long h), (3, .int (nI p)), (4, .long (ymx (ymx (ymx (ymx (ymx (ymx (ymx h ((nI (yPers τ p 0)).toInt64)) ((nI (yPers τ p 1)).toInt64)) ((nI (yPers τ p 2)).toInt64)) ((yAt τ 0 p 0).toInt64)) ((yAt τ 0 p 1).toInt64)) ((yAt τ 5 p 0).toInt64)) ((yAt τ 5 p 1).toInt64))), (6, .int (nI 3))] [.int (nI 1), .int (nI p), .int (nI 12), .ref 0, .long (ymx (ymx (ymx (ymx (ymx (ymx (ymx (ymx h ((nI (yPers τ p 0)).toInt64)) ((nI (yPers τ p 1)).toInt64)) ((nI (yPers τ p 2)).toInt64)) ((yAt τ 0 p 0).toInt64)) ((yAt τ 0 p 1).toInt64)) ((yAt τ 5 p 0).toInt64)) ((yAt τ 5 p 1).toInt64)) ((yAt τ 12 p 0).toInt64))] μ8 rfl trivial ?_
  have q9 := zs_at (nI 12) (nI p) (nI 1) i8
  rw [vAt_eq (by decide) lp (by decide) hnp] at q9
  refine zq_call zt_X8_mixStays [.ref 0, .int (nI 12), .int (nI p), .int (nI 1)] [.long (ymx (ymx (ymx (ymx (ymx (ymx (ymx (ymx h ((nI (yPers τ p 0)).toInt64)) ((nI (yPers τ p 1)).toInt64)) ((nI (yPers τ p 2)).toInt64)) ((yAt τ 0 p 0).toInt64)) ((yAt τ 0 p 1).toInt64)) ((yAt τ 5 p 0).toInt64)) ((yAt τ 5 p 1).toInt64)) ((yAt τ 12 p 0).toInt64))] (q9) rfl rfl ?_
  rintro _ μ9 ⟨rfl, i9, g9⟩
  have f9 := (f8).tr g9
  refine zq_go zt_X8_mixStays 1 [] 108 [(0, .ref 0), (1, .long h), (3, .int (nI p)), (4, .long (ymx (ymx (ymx (ymx (ymx (ymx (ymx h ((nI (yPers τ p 0)).toInt64)) ((nI (yPers τ p 1)).toInt64)) ((nI (yPers τ p 2)).toInt64)) ((yAt τ 0 p 0).toInt64)) ((yAt τ 0 p 1).toInt64)) ((yAt τ 5 p 0).toInt64)) ((yAt τ 5 p 1).toInt64))), (6, .int (nI 3))] [.long ((yAt τ 12 p 1).toInt64), .long (ymx (ymx (ymx (ymx (ymx (ymx (ymx (ymx h ((nI (yPers τ p 0)).toInt64)) ((nI (yPers τ p 1)).toInt64)) ((nI (yPers τ p 2)).toInt64)) ((yAt τ 0 p 0).toInt64)) ((yAt τ 0 p 1).toInt64)) ((yAt τ 5 p 0).toInt64)) ((yAt τ 5 p 1).toInt64)) ((yAt τ 12 p 0).toInt64))] μ9 rfl trivial ?_
  refine zq_call zt_X8_mixStays [.long (ymx (ymx (ymx (ymx (ymx (ymx (ymx (ymx h ((nI (yPers τ p 0)).toInt64)) ((nI (yPers τ p 1)).toInt64)) ((nI (yPers τ p 2)).toInt64)) ((yAt τ 0 p 0).toInt64)) ((yAt τ 0 p 1).toInt64)) ((yAt τ 5 p 0).toInt64)) ((yAt τ 5 p 1).toInt64)) ((yAt τ 12 p 0).toInt64)), .long ((yAt τ 12 p 1).toInt64)] [] (zs_mix (ymx (ymx (ymx (ymx (ymx (ymx (ymx (ymx h ((nI (yPers τ p 0)).toInt64)) ((nI (yPers τ p 1)).toInt64)) ((nI (yPers τ p 2)).toInt64)) ((yAt τ 0 p 0).toInt64)) ((yAt τ 0 p 1).toInt64)) ((yAt τ 5 p 0).toInt64)) ((yAt τ 5 p 1).toInt64)) ((yAt τ 12 p 0).toInt64)) ((yAt τ 12 p 1).toInt64) μ9) rfl rfl ?_
  rintro _ _ ⟨rfl, rfl⟩
  refine zq_go zt_X8_mixStays 6 [] 120 [(0, .ref 0), (1, .long h), (3, .int (nI p)), (4, .long (ymx (ymx (ymx (ymx (ymx (ymx (ymx (ymx (ymx h ((nI (yPers τ p 0)).toInt64)) ((nI (yPers τ p 1)).toInt64)) ((nI (yPers τ p 2)).toInt64)) ((yAt τ 0 p 0).toInt64)) ((yAt τ 0 p 1).toInt64)) ((yAt τ 5 p 0).toInt64)) ((yAt τ 5 p 1).toInt64)) ((yAt τ 12 p 0).toInt64)) ((yAt τ 12 p 1).toInt64))), (6, .int (nI 3))] [.int (nI 0), .int (nI p), .int (nI 23), .ref 0, .long (ymx (ymx (ymx (ymx (ymx (ymx (ymx (ymx (ymx h ((nI (yPers τ p 0)).toInt64)) ((nI (yPers τ p 1)).toInt64)) ((nI (yPers τ p 2)).toInt64)) ((yAt τ 0 p 0).toInt64)) ((yAt τ 0 p 1).toInt64)) ((yAt τ 5 p 0).toInt64)) ((yAt τ 5 p 1).toInt64)) ((yAt τ 12 p 0).toInt64)) ((yAt τ 12 p 1).toInt64))] μ9 rfl trivial ?_
  have q10 := zs_at (nI 23) (nI p) (nI 0) i9
  rw [vAt_eq (by decide) lp (by decide) hnp] at q10
  refine zq_call zt_X8_mixStays [.ref 0, .int (nI 23), .int (nI p), .int (nI 0)] [.long (ymx (ymx (ymx (ymx (ymx (ymx (ymx (ymx (ymx h ((nI (yPers τ p 0)).toInt64)) ((nI (yPers τ p 1)).toInt64)) ((nI (yPers τ p 2)).toInt64)) ((yAt τ 0 p 0).toInt64)) ((yAt τ 0 p 1).toInt64)) ((yAt τ 5 p 0).toInt64)) ((yAt τ 5 p 1).toInt64)) ((yAt τ 12 p 0).toInt64)) ((yAt τ 12 p 1).toInt64))] (q10) rfl rfl ?_
  rintro _ μ10 ⟨rfl, i10, g10⟩
  have f10 := (f9).tr g10
  refine zq_go zt_X8_mixStays 1 [] 124 [(0, .ref 0), (1, .long h), (3, .int (nI p)), (4, .long (ymx (ymx (ymx (ymx (ymx (ymx (ymx (ymx (ymx h ((nI (yPers τ p 0)).toInt64)) ((nI (yPers τ p 1)).toInt64)) ((nI (yPers τ p 2)).toInt64)) ((yAt τ 0 p 0).toInt64)) ((yAt τ 0 p 1).toInt64)) ((yAt τ 5 p 0).toInt64)) ((yAt τ 5 p 1).toInt64)) ((yAt τ 12 p 0).toInt64)) ((yAt τ 12 p 1).toInt64))), (6, .int (nI 3))] [.long ((yAt τ 23 p 0).toInt64), .long (ymx (ymx (ymx (ymx (ymx (ymx (ymx (ymx (ymx h ((nI (yPers τ p 0)).toInt64)) ((nI (yPers τ p 1)).toInt64)) ((nI (yPers τ p 2)).toInt64)) ((yAt τ 0 p 0).toInt64)) ((yAt τ 0 p 1).toInt64)) ((yAt τ 5 p 0).toInt64)) ((yAt τ 5 p 1).toInt64)) ((yAt τ 12 p 0).toInt64)) ((yAt τ 12 p 1).toInt64))] μ10 rfl trivial ?_
  refine zq_call zt_X8_mixStays [.long (ymx (ymx (ymx (ymx (ymx (ymx (ymx (ymx (ymx h ((nI (yPers τ p 0)).toInt64)) ((nI (yPers τ p 1)).toInt64)) ((nI (yPers τ p 2)).toInt64)) ((yAt τ 0 p 0).toInt64)) ((yAt τ 0 p 1).toInt64)) ((yAt τ 5 p 0).toInt64)) ((yAt τ 5 p 1).toInt64)) ((yAt τ 12 p 0).toInt64)) ((yAt τ 12 p 1).toInt64)), .long ((yAt τ 23 p 0).toInt64)] [] (zs_mix (ymx (ymx (ymx (ymx (ymx (ymx (ymx (ymx (ymx h ((nI (yPers τ p 0)).toInt64)) ((nI (yPers τ p 1)).toInt64)) ((nI (yPers τ p 2)).toInt64)) ((yAt τ 0 p 0).toInt64)) ((yAt τ 0 p 1).toInt64)) ((yAt τ 5 p 0).toInt64)) ((yAt τ 5 p 1).toInt64)) ((yAt τ 12 p 0).toInt64)) ((yAt τ 12 p 1).toInt64)) ((yAt τ 23 p 0).toInt64) μ10) rfl rfl ?_
  rintro _ _ ⟨rfl, rfl⟩
  refine zq_go zt_X8_mixStays 4 [] 132 [(0, .ref 0), (1, .long h), (3, .int (nI p)), (4, .long (ymx (ymx (ymx (ymx (ymx (ymx (ymx (ymx (ymx h ((nI (yPers τ p 0)).toInt64)) ((nI (yPers τ p 1)).toInt64)) ((nI (yPers τ p 2)).toInt64)) ((yAt τ 0 p 0).toInt64)) ((yAt τ 0 p 1).toInt64)) ((yAt τ 5 p 0).toInt64)) ((yAt τ 5 p 1).toInt64)) ((yAt τ 12 p 0).toInt64)) ((yAt τ 12 p 1).toInt64))), (6, .int (nI 3))] [.int (nI 1), .int (nI p), .int (nI 23), .ref 0, .long (ymx (ymx (ymx (ymx (ymx (ymx (ymx (ymx (ymx (ymx h ((nI (yPers τ p 0)).toInt64)) ((nI (yPers τ p 1)).toInt64)) ((nI (yPers τ p 2)).toInt64)) ((yAt τ 0 p 0).toInt64)) ((yAt τ 0 p 1).toInt64)) ((yAt τ 5 p 0).toInt64)) ((yAt τ 5 p 1).toInt64)) ((yAt τ 12 p 0).toInt64)) ((yAt τ 12 p 1).toInt64)) ((yAt τ 23 p 0).toInt64))] μ10 rfl trivial ?_
  have q11 := zs_at (nI 23) (nI p) (nI 1) i10
  rw [vAt_eq (by decide) lp (by decide) hnp] at q11
  refine zq_call zt_X8_mixStays [.ref 0, .int (nI 23), .int (nI p), .int (nI 1)] [.long (ymx (ymx (ymx (ymx (ymx (ymx (ymx (ymx (ymx (ymx h ((nI (yPers τ p 0)).toInt64)) ((nI (yPers τ p 1)).toInt64)) ((nI (yPers τ p 2)).toInt64)) ((yAt τ 0 p 0).toInt64)) ((yAt τ 0 p 1).toInt64)) ((yAt τ 5 p 0).toInt64)) ((yAt τ 5 p 1).toInt64)) ((yAt τ 12 p 0).toInt64)) ((yAt τ 12 p 1).toInt64)) ((yAt τ 23 p 0).toInt64))] (q11) rfl rfl ?_
  rintro _ μ11 ⟨rfl, i11, g11⟩
  have f11 := (f10).tr g11
  refine zq_go zt_X8_mixStays 1 [] 136 [(0, .ref 0), (1, .long h), (3, .int (nI p)), (4, .long (ymx (ymx (ymx (ymx (ymx (ymx (ymx (ymx (ymx h ((nI (yPers τ p 0)).toInt64)) ((nI (yPers τ p 1)).toInt64)) ((nI (yPers τ p 2)).toInt64)) ((yAt τ 0 p 0).toInt64)) ((yAt τ 0 p 1).toInt64)) ((yAt τ 5 p 0).toInt64)) ((yAt τ 5 p 1).toInt64)) ((yAt τ 12 p 0).toInt64)) ((yAt τ 12 p 1).toInt64))), (6, .int (nI 3))] [.long ((yAt τ 23 p 1).toInt64), .long (ymx (ymx (ymx (ymx (ymx (ymx (ymx (ymx (ymx (ymx h ((nI (yPers τ p 0)).toInt64)) ((nI (yPers τ p 1)).toInt64)) ((nI (yPers τ p 2)).toInt64)) ((yAt τ 0 p 0).toInt64)) ((yAt τ 0 p 1).toInt64)) ((yAt τ 5 p 0).toInt64)) ((yAt τ 5 p 1).toInt64)) ((yAt τ 12 p 0).toInt64)) ((yAt τ 12 p 1).toInt64)) ((yAt τ 23 p 0).toInt64))] μ11 rfl trivial ?_
  refine zq_call zt_X8_mixStays [.long (ymx (ymx (ymx (ymx (ymx (ymx (ymx (ymx (ymx (ymx h ((nI (yPers τ p 0)).toInt64)) ((nI (yPers τ p 1)).toInt64)) ((nI (yPers τ p 2)).toInt64)) ((yAt τ 0 p 0).toInt64)) ((yAt τ 0 p 1).toInt64)) ((yAt τ 5 p 0).toInt64)) ((yAt τ 5 p 1).toInt64)) ((yAt τ 12 p 0).toInt64)) ((yAt τ 12 p 1).toInt64)) ((yAt τ 23 p 0).toInt64)), .long ((yAt τ 23 p 1).toInt64)] [] (zs_mix (ymx (ymx (ymx (ymx (ymx (ymx (ymx (ymx (ymx (ymx h ((nI (yPers τ p 0)).toInt64)) ((nI (yPers τ p 1)).toInt64)) ((nI (yPers τ p 2)).toInt64)) ((yAt τ 0 p 0).toInt64)) ((yAt τ 0 p 1).toInt64)) ((yAt τ 5 p 0).toInt64)) ((yAt τ 5 p 1).toInt64)) ((yAt τ 12 p 0).toInt64)) ((yAt τ 12 p 1).toInt64)) ((yAt τ 23 p 0).toInt64)) ((yAt τ 23 p 1).toInt64) μ11) rfl rfl ?_
  rintro _ _ ⟨rfl, rfl⟩
  exact zq_retn zt_X8_mixStays rfl rfl (⟨rfl, i11, f11⟩)
set_option maxRecDepth 100000 in
set_option maxHeartbeats 400000 in
theorem zs_guess {τ : zTd} {S : zES} {H : zSH} {μ0 : zq_Me} {h : Int64} {p : Nat} (lp : p < ynp τ) (hC : zIc τ S H μ0) : zq_Wp zn_X8_mixGuesses 0 [(0, .ref 0), (1, .long h), (3, .int (nI p))] [] μ0 (zRc (.long (ymx (yGuess τ S h p) (yMt τ p))) τ S H μ0) := by
  have hnp := hC.2.1.2.1
  refine zq_go zt_X8_mixGuesses 4 [] 4 [(0, .ref 0), (1, .long h), (3, .int (nI p))] [.int (nI 0), .int (nI p), .ref 0, .long h] μ0 rfl trivial ?_
  refine zq_call zt_X8_mixGuesses [.ref 0, .int (nI p), .int (nI 0)] [.long h] (zs_sleep (w := 0) lp (by decide) hC) rfl rfl ?_
  rintro _ μ1 ⟨rfl, i1, g1⟩
  have f1 := g1
  refine zq_go zt_X8_mixGuesses 1 [] 8 [(0, .ref 0), (1, .long h), (3, .int (nI p))] [.long ((nI (ySl (ysf τ p) 0)).toInt64), .long h] μ1 rfl trivial ?_
  refine zq_call zt_X8_mixGuesses [.long h, .long ((nI (ySl (ysf τ p) 0)).toInt64)] [] (zs_mix h ((nI (ySl (ysf τ p) 0)).toInt64) μ1) rfl rfl ?_
  rintro _ _ ⟨rfl, rfl⟩
  refine zq_go zt_X8_mixGuesses 3 [] 14 [(0, .ref 0), (1, .long h), (3, .int (nI p))] [.int (nI 1), .int (nI p), .ref 0, .long (ymx h ((nI (ySl (ysf τ p) 0)).toInt64))] μ1 rfl trivial ?_
  refine zq_call zt_X8_mixGuesses [.ref 0, .int (nI p), .int (nI 1)] [.long (ymx h ((nI (ySl (ysf τ p) 0)).toInt64))] (zs_sleep (w := 1) lp (by decide) i1) rfl rfl ?_
  rintro _ μ2 ⟨rfl, i2, g2⟩
  have f2 := (f1).tr g2
  refine zq_go zt_X8_mixGuesses 1 [] 18 [(0, .ref 0), (1, .long h), (3, .int (nI p))] [.long ((nI (ySl (ysf τ p) 1)).toInt64), .long (ymx h ((nI (ySl (ysf τ p) 0)).toInt64))] μ2 rfl trivial ?_
  refine zq_call zt_X8_mixGuesses [.long (ymx h ((nI (ySl (ysf τ p) 0)).toInt64)), .long ((nI (ySl (ysf τ p) 1)).toInt64)] [] (zs_mix (ymx h ((nI (ySl (ysf τ p) 0)).toInt64)) ((nI (ySl (ysf τ p) 1)).toInt64) μ2) rfl rfl ?_
  rintro _ _ ⟨rfl, rfl⟩
  refine zq_go zt_X8_mixGuesses 5 [] 28 [(0, .ref 0), (1, .long h), (3, .int (nI p)), (4, .long (ymx (ymx h ((nI (ySl (ysf τ p) 0)).toInt64)) ((nI (ySl (ysf τ p) 1)).toInt64)))] [.int (nI 0), .int (nI p), .ref 0, .long (ymx (ymx h ((nI (ySl (ysf τ p) 0)).toInt64)) ((nI (ySl (ysf τ p) 1)).toInt64))] μ2 rfl trivial ?_
  refine zq_call zt_X8_mixGuesses [.ref 0, .int (nI p), .int (nI 0)] [.long (ymx (ymx h ((nI (ySl (ysf τ p) 0)).toInt64)) ((nI (ySl (ysf τ p) 1)).toInt64))] (zs_was (w := 0) lp (by decide) i2) rfl rfl ?_
  rintro _ μ3 ⟨rfl, i3, g3⟩
  have f3 := (f2).tr g3
  refine zq_go zt_X8_mixGuesses 1 [] 32 [(0, .ref 0), (1, .long h), (3, .int (nI p)), (4, .long (ymx (ymx h ((nI (ySl (ysf τ p) 0)).toInt64)) ((nI (ySl (ysf τ p) 1)).toInt64)))] [.long ((nI (yWas τ S p 0)).toInt64), .long (ymx (ymx h ((nI (ySl (ysf τ p) 0)).toInt64)) ((nI (ySl (ysf τ p) 1)).toInt64))] μ3 rfl trivial ?_
  refine zq_call zt_X8_mixGuesses [.long (ymx (ymx h ((nI (ySl (ysf τ p) 0)).toInt64)) ((nI (ySl (ysf τ p) 1)).toInt64)), .long ((nI (yWas τ S p 0)).toInt64)] [] (zs_mix (ymx (ymx h ((nI (ySl (ysf τ p) 0)).toInt64)) ((nI (ySl (ysf τ p) 1)).toInt64)) ((nI (yWas τ S p 0)).toInt64) μ3) rfl rfl ?_
  rintro _ _ ⟨rfl, rfl⟩
  refine zq_go zt_X8_mixGuesses 3 [] 38 [(0, .ref 0), (1, .long h), (3, .int (nI p)), (4, .long (ymx (ymx h ((nI (ySl (ysf τ p) 0)).toInt64)) ((nI (ySl (ysf τ p) 1)).toInt64)))] [.int (nI 1), .int (nI p), .ref 0, .long (ymx (ymx (ymx h ((nI (ySl (ysf τ p) 0)).toInt64)) ((nI (ySl (ysf τ p) 1)).toInt64)) ((nI (yWas τ S p 0)).toInt64))] μ3 rfl trivial ?_
  refine zq_call zt_X8_mixGuesses [.ref 0, .int (nI p), .int (nI 1)] [.long (ymx (ymx (ymx h ((nI (ySl (ysf τ p) 0)).toInt64)) ((nI (ySl (ysf τ p) 1)).toInt64)) ((nI (yWas τ S p 0)).toInt64))] (zs_was (w := 1) lp (by decide) i3) rfl rfl ?_
  rintro _ μ4 ⟨rfl, i4, g4⟩
  have f4 := (f3).tr g4
  refine zq_go zt_X8_mixGuesses 1 [] 42 [(0, .ref 0), (1, .long h), (3, .int (nI p)), (4, .long (ymx (ymx h ((nI (ySl (ysf τ p) 0)).toInt64)) ((nI (ySl (ysf τ p) 1)).toInt64)))] [.long ((nI (yWas τ S p 1)).toInt64), .long (ymx (ymx (ymx h ((nI (ySl (ysf τ p) 0)).toInt64)) ((nI (ySl (ysf τ p) 1)).toInt64)) ((nI (yWas τ S p 0)).toInt64))] μ4 rfl trivial ?_
  refine zq_call zt_X8_mixGuesses [.long (ymx (ymx (ymx h ((nI (ySl (ysf τ p) 0)).toInt64)) ((nI (ySl (ysf τ p) 1)).toInt64)) ((nI (yWas τ S p 0)).toInt64)), .long ((nI (yWas τ S p 1)).toInt64)] [] (zs_mix (ymx (ymx (ymx h ((nI (ySl (ysf τ p) 0)).toInt64)) ((nI (ySl (ysf τ p) 1)).toInt64)) ((nI (yWas τ S p 0)).toInt64)) ((nI (yWas τ S p 1)).toInt64) μ4) rfl rfl ?_
  rintro _ _ ⟨rfl, rfl⟩
  refine zq_go zt_X8_mixGuesses 4 [] 51 [(0, .ref 0), (1, .long h), (3, .int (nI p)), (4, .long (ymx (ymx (ymx (ymx h ((nI (ySl (ysf τ p) 0)).toInt64)) ((nI (ySl (ysf τ p) 1)).toInt64)) ((nI (yWas τ S p 0)).toInt64)) ((nI (yWas τ S p 1)).toInt64)))] [.int (nI p), .ref 0, .long (ymx (ymx (ymx (ymx h ((nI (ySl (ysf τ p) 0)).toInt64)) ((nI (ySl (ysf τ p) 1)).toInt64)) ((nI (yWas τ S p 0)).toInt64)) ((nI (yWas τ S p 1)).toInt64))] μ4 rfl trivial ?_
  refine zq_call zt_X8_mixGuesses [.ref 0, .int (nI p)] [.long (ymx (ymx (ymx (ymx h ((nI (ySl (ysf τ p) 0)).toInt64)) ((nI (ySl (ysf τ p) 1)).toInt64)) ((nI (yWas τ S p 0)).toInt64)) ((nI (yWas τ S p 1)).toInt64))] (zs_ask lp i4) rfl rfl ?_
  rintro _ μ5 ⟨rfl, i5, g5⟩
  have f5 := (f4).tr g5
  refine zq_go zt_X8_mixGuesses 1 [] 55 [(0, .ref 0), (1, .long h), (3, .int (nI p)), (4, .long (ymx (ymx (ymx (ymx h ((nI (ySl (ysf τ p) 0)).toInt64)) ((nI (ySl (ysf τ p) 1)).toInt64)) ((nI (yWas τ S p 0)).toInt64)) ((nI (yWas τ S p 1)).toInt64)))] [.long ((nI (yan2 (yaf τ S p) 24).2).toInt64), .long (ymx (ymx (ymx (ymx h ((nI (ySl (ysf τ p) 0)).toInt64)) ((nI (ySl (ysf τ p) 1)).toInt64)) ((nI (yWas τ S p 0)).toInt64)) ((nI (yWas τ S p 1)).toInt64))] μ5 rfl trivial ?_
  refine zq_call zt_X8_mixGuesses [.long (ymx (ymx (ymx (ymx h ((nI (ySl (ysf τ p) 0)).toInt64)) ((nI (ySl (ysf τ p) 1)).toInt64)) ((nI (yWas τ S p 0)).toInt64)) ((nI (yWas τ S p 1)).toInt64)), .long ((nI (yan2 (yaf τ S p) 24).2).toInt64)] [] (zs_mix (ymx (ymx (ymx (ymx h ((nI (ySl (ysf τ p) 0)).toInt64)) ((nI (ySl (ysf τ p) 1)).toInt64)) ((nI (yWas τ S p 0)).toInt64)) ((nI (yWas τ S p 1)).toInt64)) ((nI (yan2 (yaf τ S p) 24).2).toInt64) μ5) rfl rfl ?_
  rintro _ _ ⟨rfl, rfl⟩
  refine zq_go zt_X8_mixGuesses 7 [] 68 [(0, .ref 0), (1, .long h), (3, .int (nI p)), (4, .long (ymx (ymx (ymx (ymx (ymx h ((nI (ySl (ysf τ p) 0)).toInt64)) ((nI (ySl (ysf τ p) 1)).toInt64)) ((nI (yWas τ S p 0)).toInt64)) ((nI (yWas τ S p 1)).toInt64)) ((nI (yan2 (yaf τ S p) 24).2).toInt64)))] [.int (nI 0), .int (nI 14), .int (nI p), .int (nI 5), .ref 0, .long (ymx (ymx (ymx (ymx (ymx h ((nI (ySl (ysf τ p) 0)).toInt64)) ((nI (ySl (ysf τ p) 1)).toInt64)) ((nI (yWas τ S p 0)).toInt64)) ((nI (yWas τ S p 1)).toInt64)) ((nI (yan2 (yaf τ S p) 24).2).toInt64))] μ5 rfl trivial ?_
  refine zq_call zt_X8_mixGuesses [.ref 0, .int (nI 5), .int (nI p), .int (nI 14), .int (nI 0)] [.long (ymx (ymx (ymx (ymx (ymx h ((nI (ySl (ysf τ p) 0)).toInt64)) ((nI (ySl (ysf τ p) 1)).toInt64)) ((nI (yWas τ S p 0)).toInt64)) ((nI (yWas τ S p 1)).toInt64)) ((nI (yan2 (yaf τ S p) 24).2).toInt64))] (zs_chance (c := 5) (h := 14) (w := 0) (by decide) lp (by decide) (by decide) i5) rfl rfl ?_
  rintro _ μ6 ⟨rfl, i6, g6⟩
  have f6 := (f5).tr g6
  refine zq_call zt_X8_mixGuesses [.long (ymx (ymx (ymx (ymx (ymx h ((nI (ySl (ysf τ p) 0)).toInt64)) ((nI (ySl (ysf τ p) 1)).toInt64)) ((nI (yWas τ S p 0)).toInt64)) ((nI (yWas τ S p 1)).toInt64)) ((nI (yan2 (yaf τ S p) 24).2).toInt64)), .long (zL (yCh (zod τ 5 14 p) (4 * yne τ) 0))] [] (zs_mix (ymx (ymx (ymx (ymx (ymx h ((nI (ySl (ysf τ p) 0)).toInt64)) ((nI (ySl (ysf τ p) 1)).toInt64)) ((nI (yWas τ S p 0)).toInt64)) ((nI (yWas τ S p 1)).toInt64)) ((nI (yan2 (yaf τ S p) 24).2).toInt64)) (zL (yCh (zod τ 5 14 p) (4 * yne τ) 0)) μ6) rfl rfl ?_
  rintro _ _ ⟨rfl, rfl⟩
  refine zq_go zt_X8_mixGuesses 5 [] 80 [(0, .ref 0), (1, .long h), (3, .int (nI p)), (4, .long (ymx (ymx (ymx (ymx (ymx h ((nI (ySl (ysf τ p) 0)).toInt64)) ((nI (ySl (ysf τ p) 1)).toInt64)) ((nI (yWas τ S p 0)).toInt64)) ((nI (yWas τ S p 1)).toInt64)) ((nI (yan2 (yaf τ S p) 24).2).toInt64)))] [.int (nI 1), .int (nI 14), .int (nI p), .int (nI 5), .ref 0, .long (ymx (ymx (ymx (ymx (ymx (ymx h ((nI (ySl (ysf τ p) 0)).toInt64)) ((nI (ySl (ysf τ p) 1)).toInt64)) ((nI (yWas τ S p 0)).toInt64)) ((nI (yWas τ S p 1)).toInt64)) ((nI (yan2 (yaf τ S p) 24).2).toInt64)) (zL (yCh (zod τ 5 14 p) (4 * yne τ) 0)))] μ6 rfl trivial ?_
  refine zq_call zt_X8_mixGuesses [.ref 0, .int (nI 5), .int (nI p), .int (nI 14), .int (nI 1)] [.long (ymx (ymx (ymx (ymx (ymx (ymx h ((nI (ySl (ysf τ p) 0)).toInt64)) ((nI (ySl (ysf τ p) 1)).toInt64)) ((nI (yWas τ S p 0)).toInt64)) ((nI (yWas τ S p 1)).toInt64)) ((nI (yan2 (yaf τ S p) 24).2).toInt64)) (zL (yCh (zod τ 5 14 p) (4 * yne τ) 0)))] (zs_chance (c := 5) (h := 14) (w := 1) (by decide) lp (by decide) (by decide) i6) rfl rfl ?_
  rintro _ μ7 ⟨rfl, i7, g7⟩
  have f7 := (f6).tr g7
  refine zq_call zt_X8_mixGuesses [.long (ymx (ymx (ymx (ymx (ymx (ymx h ((nI (ySl (ysf τ p) 0)).toInt64)) ((nI (ySl (ysf τ p) 1)).toInt64)) ((nI (yWas τ S p 0)).toInt64)) ((nI (yWas τ S p 1)).toInt64)) ((nI (yan2 (yaf τ S p) 24).2).toInt64)) (zL (yCh (zod τ 5 14 p) (4 * yne τ) 0))), .long (zL (yCh (zod τ 5 14 p) (4 * yne τ) 1))] [] (zs_mix (ymx (ymx (ymx (ymx (ymx (ymx h ((nI (ySl (ysf τ p) 0)).toInt64)) ((nI (ySl (ysf τ p) 1)).toInt64)) ((nI (yWas τ S p 0)).toInt64)) ((nI (yWas τ S p 1)).toInt64)) ((nI (yan2 (yaf τ S p) 24).2).toInt64)) (zL (yCh (zod τ 5 14 p) (4 * yne τ) 0))) (zL (yCh (zod τ 5 14 p) (4 * yne τ) 1)) μ7) rfl rfl ?_
  rintro _ _ ⟨rfl, rfl⟩
  refine zq_go zt_X8_mixGuesses 4 [] (if ¬ (nI p) = 0 then 98 else 94) [(0, .ref 0), (1, .long h), (3, .int (nI p)), (4, .long (ymx (ymx (ymx (ymx (ymx (ymx (ymx h ((nI (ySl (ysf τ p) 0)).toInt64)) ((nI (ySl (ysf τ p) 1)).toInt64)) ((nI (yWas τ S p 0)).toInt64)) ((nI (yWas τ S p 1)).toInt64)) ((nI (yan2 (yaf τ S p) 24).2).toInt64)) (zL (yCh (zod τ 5 14 p) (4 * yne τ) 0))) (zL (yCh (zod τ 5 14 p) (4 * yne τ) 1))))] [.long (ymx (ymx (ymx (ymx (ymx (ymx (ymx h ((nI (ySl (ysf τ p) 0)).toInt64)) ((nI (ySl (ysf τ p) 1)).toInt64)) ((nI (yWas τ S p 0)).toInt64)) ((nI (yWas τ S p 1)).toInt64)) ((nI (yan2 (yaf τ S p) 24).2).toInt64)) (zL (yCh (zod τ 5 14 p) (4 * yne τ) 0))) (zL (yCh (zod τ 5 14 p) (4 * yne τ) 1)))] μ7 rfl trivial ?_
  refine zq_ite (fun h49 => ?_) (fun h49 => ?_)
  · rw [show (0 : Int32) = nI 0 from rfl, zn_eq (by omega) (by omega)] at h49
    rw [show yMt τ p = (yMeet τ 0 p).toInt64 from if_neg (by omega)]
    refine zq_go zt_X8_mixGuesses 3 [] 101 [(0, .ref 0), (1, .long h), (3, .int (nI p)), (4, .long (ymx (ymx (ymx (ymx (ymx (ymx (ymx h ((nI (ySl (ysf τ p) 0)).toInt64)) ((nI (ySl (ysf τ p) 1)).toInt64)) ((nI (yWas τ S p 0)).toInt64)) ((nI (yWas τ S p 1)).toInt64)) ((nI (yan2 (yaf τ S p) 24).2).toInt64)) (zL (yCh (zod τ 5 14 p) (4 * yne τ) 0))) (zL (yCh (zod τ 5 14 p) (4 * yne τ) 1))))] [.int (nI p), .int (nI 0), .ref 0, .long (ymx (ymx (ymx (ymx (ymx (ymx (ymx h ((nI (ySl (ysf τ p) 0)).toInt64)) ((nI (ySl (ysf τ p) 1)).toInt64)) ((nI (yWas τ S p 0)).toInt64)) ((nI (yWas τ S p 1)).toInt64)) ((nI (yan2 (yaf τ S p) 24).2).toInt64)) (zL (yCh (zod τ 5 14 p) (4 * yne τ) 0))) (zL (yCh (zod τ 5 14 p) (4 * yne τ) 1)))] μ7 rfl trivial ?_
    have q8 := zs_meet (nI 0) (nI p) i7
    rw [vMeet_eq (by omega) lp (by omega) hnp] at q8
    refine zq_call zt_X8_mixGuesses [.ref 0, .int (nI 0), .int (nI p)] [.long (ymx (ymx (ymx (ymx (ymx (ymx (ymx h ((nI (ySl (ysf τ p) 0)).toInt64)) ((nI (ySl (ysf τ p) 1)).toInt64)) ((nI (yWas τ S p 0)).toInt64)) ((nI (yWas τ S p 1)).toInt64)) ((nI (yan2 (yaf τ S p) 24).2).toInt64)) (zL (yCh (zod τ 5 14 p) (4 * yne τ) 0))) (zL (yCh (zod τ 5 14 p) (4 * yne τ) 1)))] (q8) rfl rfl ?_
    rintro _ μ8 ⟨rfl, i8, g8⟩
    have f8 := (f7).tr g8
    refine zq_go zt_X8_mixGuesses 1 [] 105 [(0, .ref 0), (1, .long h), (3, .int (nI p)), (4, .long (ymx (ymx (ymx (ymx (ymx (ymx (ymx h ((nI (ySl (ysf τ p) 0)).toInt64)) ((nI (ySl (ysf τ p) 1)).toInt64)) ((nI (yWas τ S p 0)).toInt64)) ((nI (yWas τ S p 1)).toInt64)) ((nI (yan2 (yaf τ S p) 24).2).toInt64)) (zL (yCh (zod τ 5 14 p) (4 * yne τ) 0))) (zL (yCh (zod τ 5 14 p) (4 * yne τ) 1))))] [.long ((yMeet τ 0 p).toInt64), .long (ymx (ymx (ymx (ymx (ymx (ymx (ymx h ((nI (ySl (ysf τ p) 0)).toInt64)) ((nI (ySl (ysf τ p) 1)).toInt64)) ((nI (yWas τ S p 0)).toInt64)) ((nI (yWas τ S p 1)).toInt64)) ((nI (yan2 (yaf τ S p) 24).2).toInt64)) (zL (yCh (zod τ 5 14 p) (4 * yne τ) 0))) (zL (yCh (zod τ 5 14 p) (4 * yne τ) 1)))] μ8 rfl trivial ?_
    refine zq_call zt_X8_mixGuesses [.long (ymx (ymx (ymx (ymx (ymx (ymx (ymx h ((nI (ySl (ysf τ p) 0)).toInt64)) ((nI (ySl (ysf τ p) 1)).toInt64)) ((nI (yWas τ S p 0)).toInt64)) ((nI (yWas τ S p 1)).toInt64)) ((nI (yan2 (yaf τ S p) 24).2).toInt64)) (zL (yCh (zod τ 5 14 p) (4 * yne τ) 0))) (zL (yCh (zod τ 5 14 p) (4 * yne τ) 1))), .long ((yMeet τ 0 p).toInt64)] [] (zs_mix (ymx (ymx (ymx (ymx (ymx (ymx (ymx h ((nI (ySl (ysf τ p) 0)).toInt64)) ((nI (ySl (ysf τ p) 1)).toInt64)) ((nI (yWas τ S p 0)).toInt64)) ((nI (yWas τ S p 1)).toInt64)) ((nI (yan2 (yaf τ S p) 24).2).toInt64)) (zL (yCh (zod τ 5 14 p) (4 * yne τ) 0))) (zL (yCh (zod τ 5 14 p) (4 * yne τ) 1))) ((yMeet τ 0 p).toInt64) μ8) rfl rfl ?_
    rintro _ _ ⟨rfl, rfl⟩
    exact zq_retn zt_X8_mixGuesses rfl rfl (⟨rfl, i8, f8⟩)
  · rw [show (0 : Int32) = nI 0 from rfl, zn_eq (by omega) (by omega)] at h49
    rw [show yMt τ p = 0 from if_pos (by omega)]
    refine zq_go zt_X8_mixGuesses 2 [] 105 [(0, .ref 0), (1, .long h), (3, .int (nI p)), (4, .long (ymx (ymx (ymx (ymx (ymx (ymx (ymx h ((nI (ySl (ysf τ p) 0)).toInt64)) ((nI (ySl (ysf τ p) 1)).toInt64)) ((nI (yWas τ S p 0)).toInt64)) ((nI (yWas τ S p 1)).toInt64)) ((nI (yan2 (yaf τ S p) 24).2).toInt64)) (zL (yCh (zod τ 5 14 p) (4 * yne τ) 0))) (zL (yCh (zod τ 5 14 p) (4 * yne τ) 1))))] [.long 0, .long (ymx (ymx (ymx (ymx (ymx (ymx (ymx h ((nI (ySl (ysf τ p) 0)).toInt64)) ((nI (ySl (ysf τ p) 1)).toInt64)) ((nI (yWas τ S p 0)).toInt64)) ((nI (yWas τ S p 1)).toInt64)) ((nI (yan2 (yaf τ S p) 24).2).toInt64)) (zL (yCh (zod τ 5 14 p) (4 * yne τ) 0))) (zL (yCh (zod τ 5 14 p) (4 * yne τ) 1)))] μ7 rfl trivial ?_
    refine zq_call zt_X8_mixGuesses [.long (ymx (ymx (ymx (ymx (ymx (ymx (ymx h ((nI (ySl (ysf τ p) 0)).toInt64)) ((nI (ySl (ysf τ p) 1)).toInt64)) ((nI (yWas τ S p 0)).toInt64)) ((nI (yWas τ S p 1)).toInt64)) ((nI (yan2 (yaf τ S p) 24).2).toInt64)) (zL (yCh (zod τ 5 14 p) (4 * yne τ) 0))) (zL (yCh (zod τ 5 14 p) (4 * yne τ) 1))), .long 0] [] (zs_mix (ymx (ymx (ymx (ymx (ymx (ymx (ymx h ((nI (ySl (ysf τ p) 0)).toInt64)) ((nI (ySl (ysf τ p) 1)).toInt64)) ((nI (yWas τ S p 0)).toInt64)) ((nI (yWas τ S p 1)).toInt64)) ((nI (yan2 (yaf τ S p) 24).2).toInt64)) (zL (yCh (zod τ 5 14 p) (4 * yne τ) 0))) (zL (yCh (zod τ 5 14 p) (4 * yne τ) 1))) 0 μ7) rfl rfl ?_
    rintro _ _ ⟨rfl, rfl⟩
    exact zq_retn zt_X8_mixGuesses rfl rfl (⟨rfl, i7, f7⟩)
set_option maxRecDepth 100000 in
set_option maxHeartbeats 400000 in
theorem zs_dg_d {Q : zq_Post} {τ : zTd} {S : zES} {H : zSH} {μ0 : zq_Me} {h : Int64} (kk : ∀ μ : zq_Me, zIc τ S H μ → zq_fr zSC μ0 μ → zq_Wp zn_X8_digest 90 [(0, .ref 0), (1, .long (yD3 τ h (ynd τ)))] [] μ Q) : ∀ (j d : Nat) (μ : zq_Me), d + j = ynd τ → zIc τ S H μ → zq_fr zSC μ0 μ → zq_Wp zn_X8_digest 51 [(0, .ref 0), (1, .long (yD3 τ h d)), (3, .int (nI d))] [] μ Q := by
  intro j
  induction j with
  | zero =>
    intro d μ hij hI hF
    obtain rfl : d = ynd τ := by omega
    have hnd := hI.2.1.1.1
    have e15 : μ.1 1 5 = nI (ynd τ) := hI.2.1.1.2.1
    refine zq_go zt_X8_digest 5 [] (if (μ.1 1 5) ≤ (nI (ynd τ)) then 90 else 62) [(0, .ref 0), (1, .long (yD3 τ h (ynd τ))), (3, .int (nI (ynd τ)))] [] μ rfl trivial ?_
    rw [e15]
    rw [if_pos (by rw [zn_le (by omega) (by omega)]; omega)]
    exact zq_drp [0, 1] _ rfl (kk μ hI hF)
  | succ j ih =>
    intro d μ hij hI hF
    have hnd := hI.2.1.1.1
    have e15 : μ.1 1 5 = nI (ynd τ) := hI.2.1.1.2.1
    refine zq_go zt_X8_digest 5 [] (if (μ.1 1 5) ≤ (nI d) then 90 else 62) [(0, .ref 0), (1, .long (yD3 τ h d)), (3, .int (nI d))] [] μ rfl trivial ?_
    rw [e15]
    rw [if_neg (by rw [zn_le (by omega) (by omega)]; omega)]
    refine zq_go zt_X8_digest 4 [] 66 [(0, .ref 0), (1, .long (yD3 τ h d)), (3, .int (nI d))] [.int (nI 0), .int (nI d), .ref 0, .long (yD3 τ h d)] μ rfl trivial ?_
    refine zq_call zt_X8_digest [.ref 0, .int (nI d), .int (nI 0)] [.long (yD3 τ h d)] (zs_door (w := 0) (show d < ynd τ by omega) (by decide) hI) rfl rfl ?_
    rintro _ μ1 ⟨rfl, i1, g1⟩
    have f1 := (hF).tr g1
    refine zq_go zt_X8_digest 1 [] 70 [(0, .ref 0), (1, .long (yD3 τ h d)), (3, .int (nI d))] [.long ((nI (yDoor τ d 0)).toInt64), .long (yD3 τ h d)] μ1 rfl trivial ?_
    refine zq_call zt_X8_digest [.long (yD3 τ h d), .long ((nI (yDoor τ d 0)).toInt64)] [] (zs_mix (yD3 τ h d) ((nI (yDoor τ d 0)).toInt64) μ1) rfl rfl ?_
    rintro _ _ ⟨rfl, rfl⟩
    refine zq_go zt_X8_digest 3 [] 76 [(0, .ref 0), (1, .long (yD3 τ h d)), (3, .int (nI d))] [.int (nI 1), .int (nI d), .ref 0, .long (ymx (yD3 τ h d) ((nI (yDoor τ d 0)).toInt64))] μ1 rfl trivial ?_
    refine zq_call zt_X8_digest [.ref 0, .int (nI d), .int (nI 1)] [.long (ymx (yD3 τ h d) ((nI (yDoor τ d 0)).toInt64))] (zs_door (w := 1) (show d < ynd τ by omega) (by decide) i1) rfl rfl ?_
    rintro _ μ2 ⟨rfl, i2, g2⟩
    have f2 := (f1).tr g2
    refine zq_go zt_X8_digest 1 [] 80 [(0, .ref 0), (1, .long (yD3 τ h d)), (3, .int (nI d))] [.long ((nI (yDoor τ d 1)).toInt64), .long (ymx (yD3 τ h d) ((nI (yDoor τ d 0)).toInt64))] μ2 rfl trivial ?_
    refine zq_call zt_X8_digest [.long (ymx (yD3 τ h d) ((nI (yDoor τ d 0)).toInt64)), .long ((nI (yDoor τ d 1)).toInt64)] [] (zs_mix (ymx (yD3 τ h d) ((nI (yDoor τ d 0)).toInt64)) ((nI (yDoor τ d 1)).toInt64) μ2) rfl rfl ?_
    rintro _ _ ⟨rfl, rfl⟩
    refine zq_go zt_X8_digest 3 [] 51 [(0, .ref 0), (1, .long (ymx (ymx (yD3 τ h d) ((nI (yDoor τ d 0)).toInt64)) ((nI (yDoor τ d 1)).toInt64))), (3, .int ((nI d) + (nI 1)))] [] μ2 rfl trivial ?_
    rw [zn_add d 1]
    exact ih (d + 1) μ2 (by omega) i2 f2
set_option maxRecDepth 100000 in
set_option maxHeartbeats 400000 in
theorem zs_dg_r {Q : zq_Post} {τ : zTd} {S : zES} {H : zSH} {μ0 : zq_Me} {h : Int64} (kk : ∀ μ : zq_Me, zIc τ S H μ → zq_fr zSC μ0 μ → zq_Wp zn_X8_digest 139 [(0, .ref 0), (1, .long (yD4 τ h 8))] [] μ Q) : ∀ (j r : Nat) (μ : zq_Me), r + j = 8 → zIc τ S H μ → zq_fr zSC μ0 μ → zq_Wp zn_X8_digest 92 [(0, .ref 0), (1, .long (yD4 τ h r)), (3, .int (nI r))] [] μ Q := by
  intro j
  induction j with
  | zero =>
    intro r μ hij hI hF
    obtain rfl : r = 8 := by omega
    refine zq_go zt_X8_digest 3 [] (if (nI 8) ≤ (nI 8) then 139 else 98) [(0, .ref 0), (1, .long (yD4 τ h 8)), (3, .int (nI 8))] [] μ rfl trivial ?_
    rw [if_pos (by decide)]
    exact zq_drp [0, 1] _ rfl (kk μ hI hF)
  | succ j ih =>
    intro r μ hij hI hF
    refine zq_go zt_X8_digest 3 [] (if (nI 8) ≤ (nI r) then 139 else 98) [(0, .ref 0), (1, .long (yD4 τ h r)), (3, .int (nI r))] [] μ rfl trivial ?_
    rw [if_neg (by rw [zn_le (by omega) (by omega)]; omega)]
    refine zq_go zt_X8_digest 3 [] 101 [(0, .ref 0), (1, .long (yD4 τ h r)), (3, .int (nI r))] [.int (nI r), .ref 0, .long (yD4 τ h r)] μ rfl trivial ?_
    have q1 := zs_empty (nI r) hI
    rw [vEmpty_eq (by omega)] at q1
    refine zq_call zt_X8_digest [.ref 0, .int (nI r)] [.long (yD4 τ h r)] (q1) rfl rfl ?_
    rintro _ μ1 ⟨rfl, i1, g1⟩
    have f1 := (hF).tr g1
    refine zq_go zt_X8_digest 1 [] 105 [(0, .ref 0), (1, .long (yD4 τ h r)), (3, .int (nI r))] [.long ((nI (zemp (ynp τ) (yRt τ 0) r)).toInt64), .long (yD4 τ h r)] μ1 rfl trivial ?_
    refine zq_call zt_X8_digest [.long (yD4 τ h r), .long ((nI (zemp (ynp τ) (yRt τ 0) r)).toInt64)] [] (zs_mix (yD4 τ h r) ((nI (zemp (ynp τ) (yRt τ 0) r)).toInt64) μ1) rfl rfl ?_
    rintro _ _ ⟨rfl, rfl⟩
    refine zq_go zt_X8_digest 4 [] 113 [(0, .ref 0), (1, .long (yD4 τ h r)), (3, .int (nI r))] [.int (nI 0), .int (nI r), .int (nI 9), .ref 0, .long (ymx (yD4 τ h r) ((nI (zemp (ynp τ) (yRt τ 0) r)).toInt64))] μ1 rfl trivial ?_
    have q2 := zs_far (nI 9) (nI r) (nI 0) i1
    rw [vFar_eq (by decide) (by omega) (by decide)] at q2
    refine zq_call zt_X8_digest [.ref 0, .int (nI 9), .int (nI r), .int (nI 0)] [.long (ymx (yD4 τ h r) ((nI (zemp (ynp τ) (yRt τ 0) r)).toInt64))] (q2) rfl rfl ?_
    rintro _ μ2 ⟨rfl, i2, g2⟩
    have f2 := (f1).tr g2
    refine zq_go zt_X8_digest 1 [] 117 [(0, .ref 0), (1, .long (yD4 τ h r)), (3, .int (nI r))] [.long ((yFar τ 9 r 0).toInt64), .long (ymx (yD4 τ h r) ((nI (zemp (ynp τ) (yRt τ 0) r)).toInt64))] μ2 rfl trivial ?_
    refine zq_call zt_X8_digest [.long (ymx (yD4 τ h r) ((nI (zemp (ynp τ) (yRt τ 0) r)).toInt64)), .long ((yFar τ 9 r 0).toInt64)] [] (zs_mix (ymx (yD4 τ h r) ((nI (zemp (ynp τ) (yRt τ 0) r)).toInt64)) ((yFar τ 9 r 0).toInt64) μ2) rfl rfl ?_
    rintro _ _ ⟨rfl, rfl⟩
    refine zq_go zt_X8_digest 4 [] 125 [(0, .ref 0), (1, .long (yD4 τ h r)), (3, .int (nI r))] [.int (nI 5), .int (nI r), .int (nI 23), .ref 0, .long (ymx (ymx (yD4 τ h r) ((nI (zemp (ynp τ) (yRt τ 0) r)).toInt64)) ((yFar τ 9 r 0).toInt64))] μ2 rfl trivial ?_
    have q3 := zs_far (nI 23) (nI r) (nI 5) i2
    rw [vFar_eq (by decide) (by omega) (by decide)] at q3
    refine zq_call zt_X8_digest [.ref 0, .int (nI 23), .int (nI r), .int (nI 5)] [.long (ymx (ymx (yD4 τ h r) ((nI (zemp (ynp τ) (yRt τ 0) r)).toInt64)) ((yFar τ 9 r 0).toInt64))] (q3) rfl rfl ?_
    rintro _ μ3 ⟨rfl, i3, g3⟩
    have f3 := (f2).tr g3
    refine zq_go zt_X8_digest 1 [] 129 [(0, .ref 0), (1, .long (yD4 τ h r)), (3, .int (nI r))] [.long ((yFar τ 23 r 5).toInt64), .long (ymx (ymx (yD4 τ h r) ((nI (zemp (ynp τ) (yRt τ 0) r)).toInt64)) ((yFar τ 9 r 0).toInt64))] μ3 rfl trivial ?_
    refine zq_call zt_X8_digest [.long (ymx (ymx (yD4 τ h r) ((nI (zemp (ynp τ) (yRt τ 0) r)).toInt64)) ((yFar τ 9 r 0).toInt64)), .long ((yFar τ 23 r 5).toInt64)] [] (zs_mix (ymx (ymx (yD4 τ h r) ((nI (zemp (ynp τ) (yRt τ 0) r)).toInt64)) ((yFar τ 9 r 0).toInt64)) ((yFar τ 23 r 5).toInt64) μ3) rfl rfl ?_
    rintro _ _ ⟨rfl, rfl⟩
    refine zq_go zt_X8_digest 3 [] 92 [(0, .ref 0), (1, .long (ymx (ymx (ymx (yD4 τ h r) ((nI (zemp (ynp τ) (yRt τ 0) r)).toInt64)) ((yFar τ 9 r 0).toInt64)) ((yFar τ 23 r 5).toInt64))), (3, .int ((nI r) + (nI 1)))] [] μ3 rfl trivial ?_
    rw [zn_add r 1]
    exact ih (r + 1) μ3 (by omega) i3 f3
set_option maxRecDepth 100000 in
set_option maxHeartbeats 400000 in
theorem zs_dg_p {Q : zq_Post} {τ : zTd} {S : zES} {H : zSH} {μ0 : zq_Me} {h : Int64} (kk : ∀ μ : zq_Me, zIc τ S H μ → zq_fr zSC μ0 μ → zq_Wp zn_X8_digest 170 [(0, .ref 0), (1, .long (yD5 τ S h (ynp τ)))] [] μ Q) : ∀ (j p : Nat) (μ : zq_Me), p + j = ynp τ → zIc τ S H μ → zq_fr zSC μ0 μ → zq_Wp zn_X8_digest 141 [(0, .ref 0), (1, .long (yD5 τ S h p)), (3, .int (nI p))] [] μ Q := by
  intro j
  induction j with
  | zero =>
    intro p μ hij hI hF
    obtain rfl : p = ynp τ := by omega
    have hnp := hI.2.1.2.1
    have e65 : μ.1 6 5 = nI (ynp τ) := hI.2.1.2.2.1
    refine zq_go zt_X8_digest 5 [] (if (μ.1 6 5) ≤ (nI (ynp τ)) then 170 else 152) [(0, .ref 0), (1, .long (yD5 τ S h (ynp τ))), (3, .int (nI (ynp τ)))] [] μ rfl trivial ?_
    rw [e65]
    rw [if_pos (by rw [zn_le (by omega) (by omega)]; omega)]
    exact zq_drp [0, 1] _ rfl (kk μ hI hF)
  | succ j ih =>
    intro p μ hij hI hF
    have hnp := hI.2.1.2.1
    have e65 : μ.1 6 5 = nI (ynp τ) := hI.2.1.2.2.1
    refine zq_go zt_X8_digest 5 [] (if (μ.1 6 5) ≤ (nI p) then 170 else 152) [(0, .ref 0), (1, .long (yD5 τ S h p)), (3, .int (nI p))] [] μ rfl trivial ?_
    rw [e65]
    rw [if_neg (by rw [zn_le (by omega) (by omega)]; omega)]
    refine zq_go zt_X8_digest 4 [] 156 [(0, .ref 0), (1, .long (yD5 τ S h p)), (3, .int (nI p))] [.int (nI p), .long (yD5 τ S h p), .ref 0, .ref 0] μ rfl trivial ?_
    refine zq_call zt_X8_digest [.ref 0, .long (yD5 τ S h p), .int (nI p)] [.ref 0] (zs_stays (show p < ynp τ by omega) hI) rfl rfl ?_
    rintro _ μ1 ⟨rfl, i1, g1⟩
    have f1 := (hF).tr g1
    refine zq_go zt_X8_digest 1 [] 160 [(0, .ref 0), (1, .long (yD5 τ S h p)), (3, .int (nI p))] [.int (nI p), .long (yStay τ (yD5 τ S h p) p), .ref 0] μ1 rfl trivial ?_
    refine zq_call zt_X8_digest [.ref 0, .long (yStay τ (yD5 τ S h p) p), .int (nI p)] [] (zs_guess (show p < ynp τ by omega) i1) rfl rfl ?_
    rintro _ μ2 ⟨rfl, i2, g2⟩
    have f2 := (f1).tr g2
    refine zq_go zt_X8_digest 3 [] 141 [(0, .ref 0), (1, .long (yPrs τ S (yD5 τ S h p) p)), (3, .int ((nI p) + (nI 1)))] [] μ2 rfl trivial ?_
    rw [zn_add p 1]
    exact ih (p + 1) μ2 (by omega) i2 f2
set_option maxRecDepth 100000 in
set_option maxHeartbeats 400000 in
theorem zs_digest {τ : zTd} {S : zES} {H : zSH} {μ0 : zq_Me} (hC : zIc τ S H μ0) : zq_Wp zn_X8_digest 0 [(0, .ref 0)] [] μ0 (zRc (.long (yDg τ S H)) τ S H μ0) := by
  refine zq_go zt_X8_digest 4 [] 6 [(0, .ref 0), (1, .long 17), (3, .int (nI 0))] [] μ0 rfl trivial ?_
  refine zq_go zt_X8_digest 3 [] (if (nI 7) < (nI 0) then 29 else 12) [(0, .ref 0), (1, .long 17), (3, .int (nI 0))] [] μ0 rfl trivial ?_
  rw [if_neg (by decide)]
  refine zq_go zt_X8_digest 3 [] 15 [(0, .ref 0), (1, .long 17), (3, .int (nI 0))] [.int (nI 0), .ref 0, .long 17] μ0 rfl trivial ?_
  refine zq_call zt_X8_digest [.ref 0, .int (nI 0)] [.long 17] (zs_count (n := 0) (by decide) hC) rfl rfl ?_
  rintro _ μ1 ⟨rfl, i1, g1⟩
  have f1 := g1
  refine zq_go zt_X8_digest 1 [] 19 [(0, .ref 0), (1, .long 17), (3, .int (nI 0))] [.long ((yCnt τ S H 0).toInt64), .long 17] μ1 rfl trivial ?_
  refine zq_call zt_X8_digest [.long 17, .long ((yCnt τ S H 0).toInt64)] [] (zs_mix 17 ((yCnt τ S H 0).toInt64) μ1) rfl rfl ?_
  rintro _ _ ⟨rfl, rfl⟩
  refine zq_go zt_X8_digest 3 [] 6 [(0, .ref 0), (1, .long (ymx 17 ((yCnt τ S H 0).toInt64))), (3, .int ((nI 0) + (nI 1)))] [] μ1 rfl trivial ?_
  rw [zn_add 0 1]
  rw [show nI (0 + 1) = nI 1 from rfl]
  refine zq_go zt_X8_digest 3 [] (if (nI 7) < (nI 1) then 29 else 12) [(0, .ref 0), (1, .long (ymx 17 ((yCnt τ S H 0).toInt64))), (3, .int (nI 1))] [] μ1 rfl trivial ?_
  rw [if_neg (by decide)]
  refine zq_go zt_X8_digest 3 [] 15 [(0, .ref 0), (1, .long (ymx 17 ((yCnt τ S H 0).toInt64))), (3, .int (nI 1))] [.int (nI 1), .ref 0, .long (ymx 17 ((yCnt τ S H 0).toInt64))] μ1 rfl trivial ?_
  refine zq_call zt_X8_digest [.ref 0, .int (nI 1)] [.long (ymx 17 ((yCnt τ S H 0).toInt64))] (zs_count (n := 1) (by decide) i1) rfl rfl ?_
  rintro _ μ2 ⟨rfl, i2, g2⟩
  have f2 := (f1).tr g2
  refine zq_go zt_X8_digest 1 [] 19 [(0, .ref 0), (1, .long (ymx 17 ((yCnt τ S H 0).toInt64))), (3, .int (nI 1))] [.long ((yCnt τ S H 1).toInt64), .long (ymx 17 ((yCnt τ S H 0).toInt64))] μ2 rfl trivial ?_
  refine zq_call zt_X8_digest [.long (ymx 17 ((yCnt τ S H 0).toInt64)), .long ((yCnt τ S H 1).toInt64)] [] (zs_mix (ymx 17 ((yCnt τ S H 0).toInt64)) ((yCnt τ S H 1).toInt64) μ2) rfl rfl ?_
  rintro _ _ ⟨rfl, rfl⟩
  refine zq_go zt_X8_digest 3 [] 6 [(0, .ref 0), (1, .long (ymx (ymx 17 ((yCnt τ S H 0).toInt64)) ((yCnt τ S H 1).toInt64))), (3, .int ((nI 1) + (nI 1)))] [] μ2 rfl trivial ?_
  rw [zn_add 1 1]
  rw [show nI (1 + 1) = nI 2 from rfl]
  refine zq_go zt_X8_digest 3 [] (if (nI 7) < (nI 2) then 29 else 12) [(0, .ref 0), (1, .long (ymx (ymx 17 ((yCnt τ S H 0).toInt64)) ((yCnt τ S H 1).toInt64))), (3, .int (nI 2))] [] μ2 rfl trivial ?_
  rw [if_neg (by decide)]
  refine zq_go zt_X8_digest 3 [] 15 [(0, .ref 0), (1, .long (ymx (ymx 17 ((yCnt τ S H 0).toInt64)) ((yCnt τ S H 1).toInt64))), (3, .int (nI 2))] [.int (nI 2), .ref 0, .long (ymx (ymx 17 ((yCnt τ S H 0).toInt64)) ((yCnt τ S H 1).toInt64))] μ2 rfl trivial ?_
  refine zq_call zt_X8_digest [.ref 0, .int (nI 2)] [.long (ymx (ymx 17 ((yCnt τ S H 0).toInt64)) ((yCnt τ S H 1).toInt64))] (zs_count (n := 2) (by decide) i2) rfl rfl ?_
  rintro _ μ3 ⟨rfl, i3, g3⟩
  have f3 := (f2).tr g3
  refine zq_go zt_X8_digest 1 [] 19 [(0, .ref 0), (1, .long (ymx (ymx 17 ((yCnt τ S H 0).toInt64)) ((yCnt τ S H 1).toInt64))), (3, .int (nI 2))] [.long ((yCnt τ S H 2).toInt64), .long (ymx (ymx 17 ((yCnt τ S H 0).toInt64)) ((yCnt τ S H 1).toInt64))] μ3 rfl trivial ?_
  refine zq_call zt_X8_digest [.long (ymx (ymx 17 ((yCnt τ S H 0).toInt64)) ((yCnt τ S H 1).toInt64)), .long ((yCnt τ S H 2).toInt64)] [] (zs_mix (ymx (ymx 17 ((yCnt τ S H 0).toInt64)) ((yCnt τ S H 1).toInt64)) ((yCnt τ S H 2).toInt64) μ3) rfl rfl ?_
  rintro _ _ ⟨rfl, rfl⟩
  refine zq_go zt_X8_digest 3 [] 6 [(0, .ref 0), (1, .long (ymx (ymx (ymx 17 ((yCnt τ S H 0).toInt64)) ((yCnt τ S H 1).toInt64)) ((yCnt τ S H 2).toInt64))), (3, .int ((nI 2) + (nI 1)))] [] μ3 rfl trivial ?_
  rw [zn_add 2 1]
  rw [show nI (2 + 1) = nI 3 from rfl]
  refine zq_go zt_X8_digest 3 [] (if (nI 7) < (nI 3) then 29 else 12) [(0, .ref 0), (1, .long (ymx (ymx (ymx 17 ((yCnt τ S H 0).toInt64)) ((yCnt τ S H 1).toInt64)) ((yCnt τ S H 2).toInt64))), (3, .int (nI 3))] [] μ3 rfl trivial ?_
  rw [if_neg (by decide)]
  refine zq_go zt_X8_digest 3 [] 15 [(0, .ref 0), (1, .long (ymx (ymx (ymx 17 ((yCnt τ S H 0).toInt64)) ((yCnt τ S H 1).toInt64)) ((yCnt τ S H 2).toInt64))), (3, .int (nI 3))] [.int (nI 3), .ref 0, .long (ymx (ymx (ymx 17 ((yCnt τ S H 0).toInt64)) ((yCnt τ S H 1).toInt64)) ((yCnt τ S H 2).toInt64))] μ3 rfl trivial ?_
  refine zq_call zt_X8_digest [.ref 0, .int (nI 3)] [.long (ymx (ymx (ymx 17 ((yCnt τ S H 0).toInt64)) ((yCnt τ S H 1).toInt64)) ((yCnt τ S H 2).toInt64))] (zs_count (n := 3) (by decide) i3) rfl rfl ?_
  rintro _ μ4 ⟨rfl, i4, g4⟩
  have f4 := (f3).tr g4
  refine zq_go zt_X8_digest 1 [] 19 [(0, .ref 0), (1, .long (ymx (ymx (ymx 17 ((yCnt τ S H 0).toInt64)) ((yCnt τ S H 1).toInt64)) ((yCnt τ S H 2).toInt64))), (3, .int (nI 3))] [.long ((yCnt τ S H 3).toInt64), .long (ymx (ymx (ymx 17 ((yCnt τ S H 0).toInt64)) ((yCnt τ S H 1).toInt64)) ((yCnt τ S H 2).toInt64))] μ4 rfl trivial ?_
  refine zq_call zt_X8_digest [.long (ymx (ymx (ymx 17 ((yCnt τ S H 0).toInt64)) ((yCnt τ S H 1).toInt64)) ((yCnt τ S H 2).toInt64)), .long ((yCnt τ S H 3).toInt64)] [] (zs_mix (ymx (ymx (ymx 17 ((yCnt τ S H 0).toInt64)) ((yCnt τ S H 1).toInt64)) ((yCnt τ S H 2).toInt64)) ((yCnt τ S H 3).toInt64) μ4) rfl rfl ?_
  rintro _ _ ⟨rfl, rfl⟩
  refine zq_go zt_X8_digest 3 [] 6 [(0, .ref 0), (1, .long (ymx (ymx (ymx (ymx 17 ((yCnt τ S H 0).toInt64)) ((yCnt τ S H 1).toInt64)) ((yCnt τ S H 2).toInt64)) ((yCnt τ S H 3).toInt64))), (3, .int ((nI 3) + (nI 1)))] [] μ4 rfl trivial ?_
  rw [zn_add 3 1]
  rw [show nI (3 + 1) = nI 4 from rfl]
  refine zq_go zt_X8_digest 3 [] (if (nI 7) < (nI 4) then 29 else 12) [(0, .ref 0), (1, .long (ymx (ymx (ymx (ymx 17 ((yCnt τ S H 0).toInt64)) ((yCnt τ S H 1).toInt64)) ((yCnt τ S H 2).toInt64)) ((yCnt τ S H 3).toInt64))), (3, .int (nI 4))] [] μ4 rfl trivial ?_
  rw [if_neg (by decide)]
  refine zq_go zt_X8_digest 3 [] 15 [(0, .ref 0), (1, .long (ymx (ymx (ymx (ymx 17 ((yCnt τ S H 0).toInt64)) ((yCnt τ S H 1).toInt64)) ((yCnt τ S H 2).toInt64)) ((yCnt τ S H 3).toInt64))), (3, .int (nI 4))] [.int (nI 4), .ref 0, .long (ymx (ymx (ymx (ymx 17 ((yCnt τ S H 0).toInt64)) ((yCnt τ S H 1).toInt64)) ((yCnt τ S H 2).toInt64)) ((yCnt τ S H 3).toInt64))] μ4 rfl trivial ?_
  refine zq_call zt_X8_digest [.ref 0, .int (nI 4)] [.long (ymx (ymx (ymx (ymx 17 ((yCnt τ S H 0).toInt64)) ((yCnt τ S H 1).toInt64)) ((yCnt τ S H 2).toInt64)) ((yCnt τ S H 3).toInt64))] (zs_count (n := 4) (by decide) i4) rfl rfl ?_
  rintro _ μ5 ⟨rfl, i5, g5⟩
  have f5 := (f4).tr g5
  refine zq_go zt_X8_digest 1 [] 19 [(0, .ref 0), (1, .long (ymx (ymx (ymx (ymx 17 ((yCnt τ S H 0).toInt64)) ((yCnt τ S H 1).toInt64)) ((yCnt τ S H 2).toInt64)) ((yCnt τ S H 3).toInt64))), (3, .int (nI 4))] [.long ((yCnt τ S H 4).toInt64), .long (ymx (ymx (ymx (ymx 17 ((yCnt τ S H 0).toInt64)) ((yCnt τ S H 1).toInt64)) ((yCnt τ S H 2).toInt64)) ((yCnt τ S H 3).toInt64))] μ5 rfl trivial ?_
  refine zq_call zt_X8_digest [.long (ymx (ymx (ymx (ymx 17 ((yCnt τ S H 0).toInt64)) ((yCnt τ S H 1).toInt64)) ((yCnt τ S H 2).toInt64)) ((yCnt τ S H 3).toInt64)), .long ((yCnt τ S H 4).toInt64)] [] (zs_mix (ymx (ymx (ymx (ymx 17 ((yCnt τ S H 0).toInt64)) ((yCnt τ S H 1).toInt64)) ((yCnt τ S H 2).toInt64)) ((yCnt τ S H 3).toInt64)) ((yCnt τ S H 4).toInt64) μ5) rfl rfl ?_
  rintro _ _ ⟨rfl, rfl⟩
  refine zq_go zt_X8_digest 3 [] 6 [(0, .ref 0), (1, .long (ymx (ymx (ymx (ymx (ymx 17 ((yCnt τ S H 0).toInt64)) ((yCnt τ S H 1).toInt64)) ((yCnt τ S H 2).toInt64)) ((yCnt τ S H 3).toInt64)) ((yCnt τ S H 4).toInt64))), (3, .int ((nI 4) + (nI 1)))] [] μ5 rfl trivial ?_
  rw [zn_add 4 1]
  rw [show nI (4 + 1) = nI 5 from rfl]
  refine zq_go zt_X8_digest 3 [] (if (nI 7) < (nI 5) then 29 else 12) [(0, .ref 0), (1, .long (ymx (ymx (ymx (ymx (ymx 17 ((yCnt τ S H 0).toInt64)) ((yCnt τ S H 1).toInt64)) ((yCnt τ S H 2).toInt64)) ((yCnt τ S H 3).toInt64)) ((yCnt τ S H 4).toInt64))), (3, .int (nI 5))] [] μ5 rfl trivial ?_
  rw [if_neg (by decide)]
  refine zq_go zt_X8_digest 3 [] 15 [(0, .ref 0), (1, .long (ymx (ymx (ymx (ymx (ymx 17 ((yCnt τ S H 0).toInt64)) ((yCnt τ S H 1).toInt64)) ((yCnt τ S H 2).toInt64)) ((yCnt τ S H 3).toInt64)) ((yCnt τ S H 4).toInt64))), (3, .int (nI 5))] [.int (nI 5), .ref 0, .long (ymx (ymx (ymx (ymx (ymx 17 ((yCnt τ S H 0).toInt64)) ((yCnt τ S H 1).toInt64)) ((yCnt τ S H 2).toInt64)) ((yCnt τ S H 3).toInt64)) ((yCnt τ S H 4).toInt64))] μ5 rfl trivial ?_
  refine zq_call zt_X8_digest [.ref 0, .int (nI 5)] [.long (ymx (ymx (ymx (ymx (ymx 17 ((yCnt τ S H 0).toInt64)) ((yCnt τ S H 1).toInt64)) ((yCnt τ S H 2).toInt64)) ((yCnt τ S H 3).toInt64)) ((yCnt τ S H 4).toInt64))] (zs_count (n := 5) (by decide) i5) rfl rfl ?_
  rintro _ μ6 ⟨rfl, i6, g6⟩
  have f6 := (f5).tr g6
  refine zq_go zt_X8_digest 1 [] 19 [(0, .ref 0), (1, .long (ymx (ymx (ymx (ymx (ymx 17 ((yCnt τ S H 0).toInt64)) ((yCnt τ S H 1).toInt64)) ((yCnt τ S H 2).toInt64)) ((yCnt τ S H 3).toInt64)) ((yCnt τ S H 4).toInt64))), (3, .int (nI 5))] [.long ((yCnt τ S H 5).toInt64), .long (ymx (ymx (ymx (ymx (ymx 17 ((yCnt τ S H 0).toInt64)) ((yCnt τ S H 1).toInt64)) ((yCnt τ S H 2).toInt64)) ((yCnt τ S H 3).toInt64)) ((yCnt τ S H 4).toInt64))] μ6 rfl trivial ?_
  refine zq_call zt_X8_digest [.long (ymx (ymx (ymx (ymx (ymx 17 ((yCnt τ S H 0).toInt64)) ((yCnt τ S H 1).toInt64)) ((yCnt τ S H 2).toInt64)) ((yCnt τ S H 3).toInt64)) ((yCnt τ S H 4).toInt64)), .long ((yCnt τ S H 5).toInt64)] [] (zs_mix (ymx (ymx (ymx (ymx (ymx 17 ((yCnt τ S H 0).toInt64)) ((yCnt τ S H 1).toInt64)) ((yCnt τ S H 2).toInt64)) ((yCnt τ S H 3).toInt64)) ((yCnt τ S H 4).toInt64)) ((yCnt τ S H 5).toInt64) μ6) rfl rfl ?_
  rintro _ _ ⟨rfl, rfl⟩
  refine zq_go zt_X8_digest 3 [] 6 [(0, .ref 0), (1, .long (ymx (ymx (ymx (ymx (ymx (ymx 17 ((yCnt τ S H 0).toInt64)) ((yCnt τ S H 1).toInt64)) ((yCnt τ S H 2).toInt64)) ((yCnt τ S H 3).toInt64)) ((yCnt τ S H 4).toInt64)) ((yCnt τ S H 5).toInt64))), (3, .int ((nI 5) + (nI 1)))] [] μ6 rfl trivial ?_
  rw [zn_add 5 1]
  rw [show nI (5 + 1) = nI 6 from rfl]
  refine zq_go zt_X8_digest 3 [] (if (nI 7) < (nI 6) then 29 else 12) [(0, .ref 0), (1, .long (ymx (ymx (ymx (ymx (ymx (ymx 17 ((yCnt τ S H 0).toInt64)) ((yCnt τ S H 1).toInt64)) ((yCnt τ S H 2).toInt64)) ((yCnt τ S H 3).toInt64)) ((yCnt τ S H 4).toInt64)) ((yCnt τ S H 5).toInt64))), (3, .int (nI 6))] [] μ6 rfl trivial ?_
  rw [if_neg (by decide)]
  refine zq_go zt_X8_digest 3 [] 15 [(0, .ref 0), (1, .long (ymx (ymx (ymx (ymx (ymx (ymx 17 ((yCnt τ S H 0).toInt64)) ((yCnt τ S H 1).toInt64)) ((yCnt τ S H 2).toInt64)) ((yCnt τ S H 3).toInt64)) ((yCnt τ S H 4).toInt64)) ((yCnt τ S H 5).toInt64))), (3, .int (nI 6))] [.int (nI 6), .ref 0, .long (ymx (ymx (ymx (ymx (ymx (ymx 17 ((yCnt τ S H 0).toInt64)) ((yCnt τ S H 1).toInt64)) ((yCnt τ S H 2).toInt64)) ((yCnt τ S H 3).toInt64)) ((yCnt τ S H 4).toInt64)) ((yCnt τ S H 5).toInt64))] μ6 rfl trivial ?_
  refine zq_call zt_X8_digest [.ref 0, .int (nI 6)] [.long (ymx (ymx (ymx (ymx (ymx (ymx 17 ((yCnt τ S H 0).toInt64)) ((yCnt τ S H 1).toInt64)) ((yCnt τ S H 2).toInt64)) ((yCnt τ S H 3).toInt64)) ((yCnt τ S H 4).toInt64)) ((yCnt τ S H 5).toInt64))] (zs_count (n := 6) (by decide) i6) rfl rfl ?_
  rintro _ μ7 ⟨rfl, i7, g7⟩
  have f7 := (f6).tr g7
  refine zq_go zt_X8_digest 1 [] 19 [(0, .ref 0), (1, .long (ymx (ymx (ymx (ymx (ymx (ymx 17 ((yCnt τ S H 0).toInt64)) ((yCnt τ S H 1).toInt64)) ((yCnt τ S H 2).toInt64)) ((yCnt τ S H 3).toInt64)) ((yCnt τ S H 4).toInt64)) ((yCnt τ S H 5).toInt64))), (3, .int (nI 6))] [.long ((yCnt τ S H 6).toInt64), .long (ymx (ymx (ymx (ymx (ymx (ymx 17 ((yCnt τ S H 0).toInt64)) ((yCnt τ S H 1).toInt64)) ((yCnt τ S H 2).toInt64)) ((yCnt τ S H 3).toInt64)) ((yCnt τ S H 4).toInt64)) ((yCnt τ S H 5).toInt64))] μ7 rfl trivial ?_
  refine zq_call zt_X8_digest [.long (ymx (ymx (ymx (ymx (ymx (ymx 17 ((yCnt τ S H 0).toInt64)) ((yCnt τ S H 1).toInt64)) ((yCnt τ S H 2).toInt64)) ((yCnt τ S H 3).toInt64)) ((yCnt τ S H 4).toInt64)) ((yCnt τ S H 5).toInt64)), .long ((yCnt τ S H 6).toInt64)] [] (zs_mix (ymx (ymx (ymx (ymx (ymx (ymx 17 ((yCnt τ S H 0).toInt64)) ((yCnt τ S H 1).toInt64)) ((yCnt τ S H 2).toInt64)) ((yCnt τ S H 3).toInt64)) ((yCnt τ S H 4).toInt64)) ((yCnt τ S H 5).toInt64)) ((yCnt τ S H 6).toInt64) μ7) rfl rfl ?_
  rintro _ _ ⟨rfl, rfl⟩
  refine zq_go zt_X8_digest 3 [] 6 [(0, .ref 0), (1, .long (ymx (ymx (ymx (ymx (ymx (ymx (ymx 17 ((yCnt τ S H 0).toInt64)) ((yCnt τ S H 1).toInt64)) ((yCnt τ S H 2).toInt64)) ((yCnt τ S H 3).toInt64)) ((yCnt τ S H 4).toInt64)) ((yCnt τ S H 5).toInt64)) ((yCnt τ S H 6).toInt64))), (3, .int ((nI 6) + (nI 1)))] [] μ7 rfl trivial ?_
  rw [zn_add 6 1]
  rw [show nI (6 + 1) = nI 7 from rfl]
  refine zq_go zt_X8_digest 3 [] (if (nI 7) < (nI 7) then 29 else 12) [(0, .ref 0), (1, .long (ymx (ymx (ymx (ymx (ymx (ymx (ymx 17 ((yCnt τ S H 0).toInt64)) ((yCnt τ S H 1).toInt64)) ((yCnt τ S H 2).toInt64)) ((yCnt τ S H 3).toInt64)) ((yCnt τ S H 4).toInt64)) ((yCnt τ S H 5).toInt64)) ((yCnt τ S H 6).toInt64))), (3, .int (nI 7))] [] μ7 rfl trivial ?_
  rw [if_neg (by decide)]
  refine zq_go zt_X8_digest 3 [] 15 [(0, .ref 0), (1, .long (ymx (ymx (ymx (ymx (ymx (ymx (ymx 17 ((yCnt τ S H 0).toInt64)) ((yCnt τ S H 1).toInt64)) ((yCnt τ S H 2).toInt64)) ((yCnt τ S H 3).toInt64)) ((yCnt τ S H 4).toInt64)) ((yCnt τ S H 5).toInt64)) ((yCnt τ S H 6).toInt64))), (3, .int (nI 7))] [.int (nI 7), .ref 0, .long (ymx (ymx (ymx (ymx (ymx (ymx (ymx 17 ((yCnt τ S H 0).toInt64)) ((yCnt τ S H 1).toInt64)) ((yCnt τ S H 2).toInt64)) ((yCnt τ S H 3).toInt64)) ((yCnt τ S H 4).toInt64)) ((yCnt τ S H 5).toInt64)) ((yCnt τ S H 6).toInt64))] μ7 rfl trivial ?_
  refine zq_call zt_X8_digest [.ref 0, .int (nI 7)] [.long (ymx (ymx (ymx (ymx (ymx (ymx (ymx 17 ((yCnt τ S H 0).toInt64)) ((yCnt τ S H 1).toInt64)) ((yCnt τ S H 2).toInt64)) ((yCnt τ S H 3).toInt64)) ((yCnt τ S H 4).toInt64)) ((yCnt τ S H 5).toInt64)) ((yCnt τ S H 6).toInt64))] (zs_count (n := 7) (by decide) i7) rfl rfl ?_
  rintro _ μ8 ⟨rfl, i8, g8⟩
  have f8 := (f7).tr g8
  refine zq_go zt_X8_digest 1 [] 19 [(0, .ref 0), (1, .long (ymx (ymx (ymx (ymx (ymx (ymx (ymx 17 ((yCnt τ S H 0).toInt64)) ((yCnt τ S H 1).toInt64)) ((yCnt τ S H 2).toInt64)) ((yCnt τ S H 3).toInt64)) ((yCnt τ S H 4).toInt64)) ((yCnt τ S H 5).toInt64)) ((yCnt τ S H 6).toInt64))), (3, .int (nI 7))] [.long ((yCnt τ S H 7).toInt64), .long (ymx (ymx (ymx (ymx (ymx (ymx (ymx 17 ((yCnt τ S H 0).toInt64)) ((yCnt τ S H 1).toInt64)) ((yCnt τ S H 2).toInt64)) ((yCnt τ S H 3).toInt64)) ((yCnt τ S H 4).toInt64)) ((yCnt τ S H 5).toInt64)) ((yCnt τ S H 6).toInt64))] μ8 rfl trivial ?_
  refine zq_call zt_X8_digest [.long (ymx (ymx (ymx (ymx (ymx (ymx (ymx 17 ((yCnt τ S H 0).toInt64)) ((yCnt τ S H 1).toInt64)) ((yCnt τ S H 2).toInt64)) ((yCnt τ S H 3).toInt64)) ((yCnt τ S H 4).toInt64)) ((yCnt τ S H 5).toInt64)) ((yCnt τ S H 6).toInt64)), .long ((yCnt τ S H 7).toInt64)] [] (zs_mix (ymx (ymx (ymx (ymx (ymx (ymx (ymx 17 ((yCnt τ S H 0).toInt64)) ((yCnt τ S H 1).toInt64)) ((yCnt τ S H 2).toInt64)) ((yCnt τ S H 3).toInt64)) ((yCnt τ S H 4).toInt64)) ((yCnt τ S H 5).toInt64)) ((yCnt τ S H 6).toInt64)) ((yCnt τ S H 7).toInt64) μ8) rfl rfl ?_
  rintro _ _ ⟨rfl, rfl⟩
  refine zq_go zt_X8_digest 3 [] 6 [(0, .ref 0), (1, .long (ymx (ymx (ymx (ymx (ymx (ymx (ymx (ymx 17 ((yCnt τ S H 0).toInt64)) ((yCnt τ S H 1).toInt64)) ((yCnt τ S H 2).toInt64)) ((yCnt τ S H 3).toInt64)) ((yCnt τ S H 4).toInt64)) ((yCnt τ S H 5).toInt64)) ((yCnt τ S H 6).toInt64)) ((yCnt τ S H 7).toInt64))), (3, .int ((nI 7) + (nI 1)))] [] μ8 rfl trivial ?_
  rw [zn_add 7 1]
  rw [show nI (7 + 1) = nI 8 from rfl]
  refine zq_go zt_X8_digest 3 [] (if (nI 7) < (nI 8) then 29 else 12) [(0, .ref 0), (1, .long (ymx (ymx (ymx (ymx (ymx (ymx (ymx (ymx 17 ((yCnt τ S H 0).toInt64)) ((yCnt τ S H 1).toInt64)) ((yCnt τ S H 2).toInt64)) ((yCnt τ S H 3).toInt64)) ((yCnt τ S H 4).toInt64)) ((yCnt τ S H 5).toInt64)) ((yCnt τ S H 6).toInt64)) ((yCnt τ S H 7).toInt64))), (3, .int (nI 8))] [] μ8 rfl trivial ?_
  rw [if_pos (by decide)]
  rw [show ymx (ymx (ymx (ymx (ymx (ymx (ymx (ymx 17 ((yCnt τ S H 0).toInt64)) ((yCnt τ S H 1).toInt64)) ((yCnt τ S H 2).toInt64)) ((yCnt τ S H 3).toInt64)) ((yCnt τ S H 4).toInt64)) ((yCnt τ S H 5).toInt64)) ((yCnt τ S H 6).toInt64)) ((yCnt τ S H 7).toInt64) = yD1 τ S H from rfl]
  refine zq_go zt_X8_digest 3 [] 32 [(0, .ref 0), (1, .long (yD1 τ S H)), (3, .int (nI 8))] [.int (nI 0), .ref 0, .long (yD1 τ S H)] μ8 rfl trivial ?_
  refine zq_call zt_X8_digest [.ref 0, .int (nI 0)] [.long (yD1 τ S H)] (zs_fault_0 i8) rfl rfl ?_
  rintro _ μ9 ⟨rfl, i9, g9⟩
  have f9 := (f8).tr g9
  refine zq_go zt_X8_digest 1 [] 36 [(0, .ref 0), (1, .long (yD1 τ S H)), (3, .int (nI 8))] [.long ((zdn (ztf (zok1 (yb0 τ)) 3 (yn0 τ))).toInt64), .long (yD1 τ S H)] μ9 rfl trivial ?_
  refine zq_call zt_X8_digest [.long (yD1 τ S H), .long ((zdn (ztf (zok1 (yb0 τ)) 3 (yn0 τ))).toInt64)] [] (zs_mix (yD1 τ S H) ((zdn (ztf (zok1 (yb0 τ)) 3 (yn0 τ))).toInt64) μ9) rfl rfl ?_
  rintro _ _ ⟨rfl, rfl⟩
  refine zq_go zt_X8_digest 2 [] 41 [(0, .ref 0), (1, .long (yD1 τ S H)), (3, .int (nI 8))] [.int (nI 1), .ref 0, .long (ymx (yD1 τ S H) ((zdn (ztf (zok1 (yb0 τ)) 3 (yn0 τ))).toInt64))] μ9 rfl trivial ?_
  refine zq_call zt_X8_digest [.ref 0, .int (nI 1)] [.long (ymx (yD1 τ S H) ((zdn (ztf (zok1 (yb0 τ)) 3 (yn0 τ))).toInt64))] (zs_fault_1 i9) rfl rfl ?_
  rintro _ μ10 ⟨rfl, i10, g10⟩
  have f10 := (f9).tr g10
  refine zq_go zt_X8_digest 1 [] 45 [(0, .ref 0), (1, .long (yD1 τ S H)), (3, .int (nI 8))] [.long ((zdn (ztf (zok6 (yb1 τ)) 4 (yn1 τ))).toInt64), .long (ymx (yD1 τ S H) ((zdn (ztf (zok1 (yb0 τ)) 3 (yn0 τ))).toInt64))] μ10 rfl trivial ?_
  refine zq_call zt_X8_digest [.long (ymx (yD1 τ S H) ((zdn (ztf (zok1 (yb0 τ)) 3 (yn0 τ))).toInt64)), .long ((zdn (ztf (zok6 (yb1 τ)) 4 (yn1 τ))).toInt64)] [] (zs_mix (ymx (yD1 τ S H) ((zdn (ztf (zok1 (yb0 τ)) 3 (yn0 τ))).toInt64)) ((zdn (ztf (zok6 (yb1 τ)) 4 (yn1 τ))).toInt64) μ10) rfl rfl ?_
  rintro _ _ ⟨rfl, rfl⟩
  refine zq_go zt_X8_digest 3 [] 51 [(0, .ref 0), (1, .long (ymx (ymx (yD1 τ S H) ((zdn (ztf (zok1 (yb0 τ)) 3 (yn0 τ))).toInt64)) ((zdn (ztf (zok6 (yb1 τ)) 4 (yn1 τ))).toInt64))), (3, .int (nI 0))] [] μ10 rfl trivial ?_
  rw [show ymx (ymx (yD1 τ S H) ((zdn (ztf (zok1 (yb0 τ)) 3 (yn0 τ))).toInt64)) ((zdn (ztf (zok6 (yb1 τ)) 4 (yn1 τ))).toInt64) = yD2 τ (yD1 τ S H) from rfl]
  refine zs_dg_d (τ := τ) (S := S) (H := H) (μ0 := μ0) (h := yD2 τ (yD1 τ S H)) (fun μ11 i11 f11 => ?_) (ynd τ) 0 μ10 (by omega) i10 f10
  refine zq_go zt_X8_digest 2 [] 92 [(0, .ref 0), (1, .long (yD3 τ (yD2 τ (yD1 τ S H)) (ynd τ))), (3, .int (nI 0))] [] μ11 rfl trivial ?_
  refine zs_dg_r (τ := τ) (S := S) (H := H) (μ0 := μ0) (h := yD3 τ (yD2 τ (yD1 τ S H)) (ynd τ)) (fun μ12 i12 f12 => ?_) (8) 0 μ11 (by omega) i11 f11
  refine zq_go zt_X8_digest 2 [] 141 [(0, .ref 0), (1, .long (yD4 τ (yD3 τ (yD2 τ (yD1 τ S H)) (ynd τ)) 8)), (3, .int (nI 0))] [] μ12 rfl trivial ?_
  refine zs_dg_p (τ := τ) (S := S) (H := H) (μ0 := μ0) (h := yD4 τ (yD3 τ (yD2 τ (yD1 τ S H)) (ynd τ)) 8) (fun μ13 i13 f13 => ?_) (ynp τ) 0 μ12 (by omega) i12 f12
  obtain ⟨h5, eh5⟩ : ∃ k9 : Int64, k9 = yD5 τ S (yD4 τ (yD3 τ (yD2 τ (yD1 τ S H)) (ynd τ)) 8) (ynp τ) := ⟨_, rfl⟩
  rw [show yDg τ S H = yD8 τ S (yD7 τ (yD6 τ h5)) by rw [eh5]; rfl, ← eh5]
  refine zq_go zt_X8_digest 2 [] 172 [(0, .ref 0), (1, .long h5), (3, .int (nI 0))] [] μ13 rfl trivial ?_
  refine zq_go zt_X8_digest 3 [] (if (nI 2) < (nI 0) then 194 else 177) [(0, .ref 0), (1, .long h5), (3, .int (nI 0))] [] μ13 rfl trivial ?_
  rw [if_neg (by decide)]
  refine zq_go zt_X8_digest 3 [] 180 [(0, .ref 0), (1, .long h5), (3, .int (nI 0))] [.int (nI 0), .ref 0, .long h5] μ13 rfl trivial ?_
  have q14 := zs_found (nI 0) i13
  rw [vFound_eq (by decide)] at q14
  refine zq_call zt_X8_digest [.ref 0, .int (nI 0)] [.long h5] (q14) rfl rfl ?_
  rintro _ μ14 ⟨rfl, i14, g14⟩
  have f14 := (f13).tr g14
  refine zq_go zt_X8_digest 1 [] 184 [(0, .ref 0), (1, .long h5), (3, .int (nI 0))] [.long ((zfv (ysr τ) (ynp τ) (yRt τ 0) (nI 0)).toInt64), .long h5] μ14 rfl trivial ?_
  refine zq_call zt_X8_digest [.long h5, .long ((zfv (ysr τ) (ynp τ) (yRt τ 0) (nI 0)).toInt64)] [] (zs_mix h5 ((zfv (ysr τ) (ynp τ) (yRt τ 0) (nI 0)).toInt64) μ14) rfl rfl ?_
  rintro _ _ ⟨rfl, rfl⟩
  refine zq_go zt_X8_digest 3 [] 172 [(0, .ref 0), (1, .long (ymx h5 ((zfv (ysr τ) (ynp τ) (yRt τ 0) (nI 0)).toInt64))), (3, .int ((nI 0) + (nI 1)))] [] μ14 rfl trivial ?_
  rw [zn_add 0 1]
  rw [show nI (0 + 1) = nI 1 from rfl]
  refine zq_go zt_X8_digest 3 [] (if (nI 2) < (nI 1) then 194 else 177) [(0, .ref 0), (1, .long (ymx h5 ((zfv (ysr τ) (ynp τ) (yRt τ 0) (nI 0)).toInt64))), (3, .int (nI 1))] [] μ14 rfl trivial ?_
  rw [if_neg (by decide)]
  refine zq_go zt_X8_digest 3 [] 180 [(0, .ref 0), (1, .long (ymx h5 ((zfv (ysr τ) (ynp τ) (yRt τ 0) (nI 0)).toInt64))), (3, .int (nI 1))] [.int (nI 1), .ref 0, .long (ymx h5 ((zfv (ysr τ) (ynp τ) (yRt τ 0) (nI 0)).toInt64))] μ14 rfl trivial ?_
  have q15 := zs_found (nI 1) i14
  rw [vFound_eq (by decide)] at q15
  refine zq_call zt_X8_digest [.ref 0, .int (nI 1)] [.long (ymx h5 ((zfv (ysr τ) (ynp τ) (yRt τ 0) (nI 0)).toInt64))] (q15) rfl rfl ?_
  rintro _ μ15 ⟨rfl, i15, g15⟩
  have f15 := (f14).tr g15
  refine zq_go zt_X8_digest 1 [] 184 [(0, .ref 0), (1, .long (ymx h5 ((zfv (ysr τ) (ynp τ) (yRt τ 0) (nI 0)).toInt64))), (3, .int (nI 1))] [.long ((zfv (ysr τ) (ynp τ) (yRt τ 0) (nI 1)).toInt64), .long (ymx h5 ((zfv (ysr τ) (ynp τ) (yRt τ 0) (nI 0)).toInt64))] μ15 rfl trivial ?_
  refine zq_call zt_X8_digest [.long (ymx h5 ((zfv (ysr τ) (ynp τ) (yRt τ 0) (nI 0)).toInt64)), .long ((zfv (ysr τ) (ynp τ) (yRt τ 0) (nI 1)).toInt64)] [] (zs_mix (ymx h5 ((zfv (ysr τ) (ynp τ) (yRt τ 0) (nI 0)).toInt64)) ((zfv (ysr τ) (ynp τ) (yRt τ 0) (nI 1)).toInt64) μ15) rfl rfl ?_
  rintro _ _ ⟨rfl, rfl⟩
  refine zq_go zt_X8_digest 3 [] 172 [(0, .ref 0), (1, .long (ymx (ymx h5 ((zfv (ysr τ) (ynp τ) (yRt τ 0) (nI 0)).toInt64)) ((zfv (ysr τ) (ynp τ) (yRt τ 0) (nI 1)).toInt64))), (3, .int ((nI 1) + (nI 1)))] [] μ15 rfl trivial ?_
  rw [zn_add 1 1]
  rw [show nI (1 + 1) = nI 2 from rfl]
  refine zq_go zt_X8_digest 3 [] (if (nI 2) < (nI 2) then 194 else 177) [(0, .ref 0), (1, .long (ymx (ymx h5 ((zfv (ysr τ) (ynp τ) (yRt τ 0) (nI 0)).toInt64)) ((zfv (ysr τ) (ynp τ) (yRt τ 0) (nI 1)).toInt64))), (3, .int (nI 2))] [] μ15 rfl trivial ?_
  rw [if_neg (by decide)]
  refine zq_go zt_X8_digest 3 [] 180 [(0, .ref 0), (1, .long (ymx (ymx h5 ((zfv (ysr τ) (ynp τ) (yRt τ 0) (nI 0)).toInt64)) ((zfv (ysr τ) (ynp τ) (yRt τ 0) (nI 1)).toInt64))), (3, .int (nI 2))] [.int (nI 2), .ref 0, .long (ymx (ymx h5 ((zfv (ysr τ) (ynp τ) (yRt τ 0) (nI 0)).toInt64)) ((zfv (ysr τ) (ynp τ) (yRt τ 0) (nI 1)).toInt64))] μ15 rfl trivial ?_
  have q16 := zs_found (nI 2) i15
  rw [vFound_eq (by decide)] at q16
  refine zq_call zt_X8_digest [.ref 0, .int (nI 2)] [.long (ymx (ymx h5 ((zfv (ysr τ) (ynp τ) (yRt τ 0) (nI 0)).toInt64)) ((zfv (ysr τ) (ynp τ) (yRt τ 0) (nI 1)).toInt64))] (q16) rfl rfl ?_
  rintro _ μ16 ⟨rfl, i16, g16⟩
  have f16 := (f15).tr g16
  refine zq_go zt_X8_digest 1 [] 184 [(0, .ref 0), (1, .long (ymx (ymx h5 ((zfv (ysr τ) (ynp τ) (yRt τ 0) (nI 0)).toInt64)) ((zfv (ysr τ) (ynp τ) (yRt τ 0) (nI 1)).toInt64))), (3, .int (nI 2))] [.long ((zfv (ysr τ) (ynp τ) (yRt τ 0) (nI 2)).toInt64), .long (ymx (ymx h5 ((zfv (ysr τ) (ynp τ) (yRt τ 0) (nI 0)).toInt64)) ((zfv (ysr τ) (ynp τ) (yRt τ 0) (nI 1)).toInt64))] μ16 rfl trivial ?_
  refine zq_call zt_X8_digest [.long (ymx (ymx h5 ((zfv (ysr τ) (ynp τ) (yRt τ 0) (nI 0)).toInt64)) ((zfv (ysr τ) (ynp τ) (yRt τ 0) (nI 1)).toInt64)), .long ((zfv (ysr τ) (ynp τ) (yRt τ 0) (nI 2)).toInt64)] [] (zs_mix (ymx (ymx h5 ((zfv (ysr τ) (ynp τ) (yRt τ 0) (nI 0)).toInt64)) ((zfv (ysr τ) (ynp τ) (yRt τ 0) (nI 1)).toInt64)) ((zfv (ysr τ) (ynp τ) (yRt τ 0) (nI 2)).toInt64) μ16) rfl rfl ?_
  rintro _ _ ⟨rfl, rfl⟩
  refine zq_go zt_X8_digest 3 [] 172 [(0, .ref 0), (1, .long (ymx (ymx (ymx h5 ((zfv (ysr τ) (ynp τ) (yRt τ 0) (nI 0)).toInt64)) ((zfv (ysr τ) (ynp τ) (yRt τ 0) (nI 1)).toInt64)) ((zfv (ysr τ) (ynp τ) (yRt τ 0) (nI 2)).toInt64))), (3, .int ((nI 2) + (nI 1)))] [] μ16 rfl trivial ?_
  rw [zn_add 2 1]
  rw [show nI (2 + 1) = nI 3 from rfl]
  refine zq_go zt_X8_digest 3 [] (if (nI 2) < (nI 3) then 194 else 177) [(0, .ref 0), (1, .long (ymx (ymx (ymx h5 ((zfv (ysr τ) (ynp τ) (yRt τ 0) (nI 0)).toInt64)) ((zfv (ysr τ) (ynp τ) (yRt τ 0) (nI 1)).toInt64)) ((zfv (ysr τ) (ynp τ) (yRt τ 0) (nI 2)).toInt64))), (3, .int (nI 3))] [] μ16 rfl trivial ?_
  rw [if_pos (by decide)]
  refine zq_go zt_X8_digest 2 [] 196 [(0, .ref 0), (1, .long (ymx (ymx (ymx h5 ((zfv (ysr τ) (ynp τ) (yRt τ 0) (nI 0)).toInt64)) ((zfv (ysr τ) (ynp τ) (yRt τ 0) (nI 1)).toInt64)) ((zfv (ysr τ) (ynp τ) (yRt τ 0) (nI 2)).toInt64))), (3, .int (nI 0))] [] μ16 rfl trivial ?_
  refine zq_go zt_X8_digest 3 [] (if (nI 2) < (nI 0) then 218 else 201) [(0, .ref 0), (1, .long (ymx (ymx (ymx h5 ((zfv (ysr τ) (ynp τ) (yRt τ 0) (nI 0)).toInt64)) ((zfv (ysr τ) (ynp τ) (yRt τ 0) (nI 1)).toInt64)) ((zfv (ysr τ) (ynp τ) (yRt τ 0) (nI 2)).toInt64))), (3, .int (nI 0))] [] μ16 rfl trivial ?_
  rw [if_neg (by decide)]
  refine zq_go zt_X8_digest 3 [] 204 [(0, .ref 0), (1, .long (ymx (ymx (ymx h5 ((zfv (ysr τ) (ynp τ) (yRt τ 0) (nI 0)).toInt64)) ((zfv (ysr τ) (ynp τ) (yRt τ 0) (nI 1)).toInt64)) ((zfv (ysr τ) (ynp τ) (yRt τ 0) (nI 2)).toInt64))), (3, .int (nI 0))] [.int (nI 0), .ref 0, .long (ymx (ymx (ymx h5 ((zfv (ysr τ) (ynp τ) (yRt τ 0) (nI 0)).toInt64)) ((zfv (ysr τ) (ynp τ) (yRt τ 0) (nI 1)).toInt64)) ((zfv (ysr τ) (ynp τ) (yRt τ 0) (nI 2)).toInt64))] μ16 rfl trivial ?_
  have q17 := zs_crowd (nI 0) i16
  rw [vCrowd_eq (by decide)] at q17
  refine zq_call zt_X8_digest [.ref 0, .int (nI 0)] [.long (ymx (ymx (ymx h5 ((zfv (ysr τ) (ynp τ) (yRt τ 0) (nI 0)).toInt64)) ((zfv (ysr τ) (ynp τ) (yRt τ 0) (nI 1)).toInt64)) ((zfv (ysr τ) (ynp τ) (yRt τ 0) (nI 2)).toInt64))] (q17) rfl rfl ?_
  rintro _ μ17 ⟨rfl, i17, g17⟩
  have f17 := (f16).tr g17
  refine zq_go zt_X8_digest 1 [] 208 [(0, .ref 0), (1, .long (ymx (ymx (ymx h5 ((zfv (ysr τ) (ynp τ) (yRt τ 0) (nI 0)).toInt64)) ((zfv (ysr τ) (ynp τ) (yRt τ 0) (nI 1)).toInt64)) ((zfv (ysr τ) (ynp τ) (yRt τ 0) (nI 2)).toInt64))), (3, .int (nI 0))] [.long ((nI (yCrowd τ 0)).toInt64), .long (ymx (ymx (ymx h5 ((zfv (ysr τ) (ynp τ) (yRt τ 0) (nI 0)).toInt64)) ((zfv (ysr τ) (ynp τ) (yRt τ 0) (nI 1)).toInt64)) ((zfv (ysr τ) (ynp τ) (yRt τ 0) (nI 2)).toInt64))] μ17 rfl trivial ?_
  refine zq_call zt_X8_digest [.long (ymx (ymx (ymx h5 ((zfv (ysr τ) (ynp τ) (yRt τ 0) (nI 0)).toInt64)) ((zfv (ysr τ) (ynp τ) (yRt τ 0) (nI 1)).toInt64)) ((zfv (ysr τ) (ynp τ) (yRt τ 0) (nI 2)).toInt64)), .long ((nI (yCrowd τ 0)).toInt64)] [] (zs_mix (ymx (ymx (ymx h5 ((zfv (ysr τ) (ynp τ) (yRt τ 0) (nI 0)).toInt64)) ((zfv (ysr τ) (ynp τ) (yRt τ 0) (nI 1)).toInt64)) ((zfv (ysr τ) (ynp τ) (yRt τ 0) (nI 2)).toInt64)) ((nI (yCrowd τ 0)).toInt64) μ17) rfl rfl ?_
  rintro _ _ ⟨rfl, rfl⟩
  refine zq_go zt_X8_digest 3 [] 196 [(0, .ref 0), (1, .long (ymx (ymx (ymx (ymx h5 ((zfv (ysr τ) (ynp τ) (yRt τ 0) (nI 0)).toInt64)) ((zfv (ysr τ) (ynp τ) (yRt τ 0) (nI 1)).toInt64)) ((zfv (ysr τ) (ynp τ) (yRt τ 0) (nI 2)).toInt64)) ((nI (yCrowd τ 0)).toInt64))), (3, .int ((nI 0) + (nI 1)))] [] μ17 rfl trivial ?_
  rw [zn_add 0 1]
  rw [show nI (0 + 1) = nI 1 from rfl]
  refine zq_go zt_X8_digest 3 [] (if (nI 2) < (nI 1) then 218 else 201) [(0, .ref 0), (1, .long (ymx (ymx (ymx (ymx h5 ((zfv (ysr τ) (ynp τ) (yRt τ 0) (nI 0)).toInt64)) ((zfv (ysr τ) (ynp τ) (yRt τ 0) (nI 1)).toInt64)) ((zfv (ysr τ) (ynp τ) (yRt τ 0) (nI 2)).toInt64)) ((nI (yCrowd τ 0)).toInt64))), (3, .int (nI 1))] [] μ17 rfl trivial ?_
  rw [if_neg (by decide)]
  refine zq_go zt_X8_digest 3 [] 204 [(0, .ref 0), (1, .long (ymx (ymx (ymx (ymx h5 ((zfv (ysr τ) (ynp τ) (yRt τ 0) (nI 0)).toInt64)) ((zfv (ysr τ) (ynp τ) (yRt τ 0) (nI 1)).toInt64)) ((zfv (ysr τ) (ynp τ) (yRt τ 0) (nI 2)).toInt64)) ((nI (yCrowd τ 0)).toInt64))), (3, .int (nI 1))] [.int (nI 1), .ref 0, .long (ymx (ymx (ymx (ymx h5 ((zfv (ysr τ) (ynp τ) (yRt τ 0) (nI 0)).toInt64)) ((zfv (ysr τ) (ynp τ) (yRt τ 0) (nI 1)).toInt64)) ((zfv (ysr τ) (ynp τ) (yRt τ 0) (nI 2)).toInt64)) ((nI (yCrowd τ 0)).toInt64))] μ17 rfl trivial ?_
  have q18 := zs_crowd (nI 1) i17
  rw [vCrowd_eq (by decide)] at q18
  refine zq_call zt_X8_digest [.ref 0, .int (nI 1)] [.long (ymx (ymx (ymx (ymx h5 ((zfv (ysr τ) (ynp τ) (yRt τ 0) (nI 0)).toInt64)) ((zfv (ysr τ) (ynp τ) (yRt τ 0) (nI 1)).toInt64)) ((zfv (ysr τ) (ynp τ) (yRt τ 0) (nI 2)).toInt64)) ((nI (yCrowd τ 0)).toInt64))] (q18) rfl rfl ?_
  rintro _ μ18 ⟨rfl, i18, g18⟩
  have f18 := (f17).tr g18
  refine zq_go zt_X8_digest 1 [] 208 [(0, .ref 0), (1, .long (ymx (ymx (ymx (ymx h5 ((zfv (ysr τ) (ynp τ) (yRt τ 0) (nI 0)).toInt64)) ((zfv (ysr τ) (ynp τ) (yRt τ 0) (nI 1)).toInt64)) ((zfv (ysr τ) (ynp τ) (yRt τ 0) (nI 2)).toInt64)) ((nI (yCrowd τ 0)).toInt64))), (3, .int (nI 1))] [.long ((nI (yCrowd τ 1)).toInt64), .long (ymx (ymx (ymx (ymx h5 ((zfv (ysr τ) (ynp τ) (yRt τ 0) (nI 0)).toInt64)) ((zfv (ysr τ) (ynp τ) (yRt τ 0) (nI 1)).toInt64)) ((zfv (ysr τ) (ynp τ) (yRt τ 0) (nI 2)).toInt64)) ((nI (yCrowd τ 0)).toInt64))] μ18 rfl trivial ?_
  refine zq_call zt_X8_digest [.long (ymx (ymx (ymx (ymx h5 ((zfv (ysr τ) (ynp τ) (yRt τ 0) (nI 0)).toInt64)) ((zfv (ysr τ) (ynp τ) (yRt τ 0) (nI 1)).toInt64)) ((zfv (ysr τ) (ynp τ) (yRt τ 0) (nI 2)).toInt64)) ((nI (yCrowd τ 0)).toInt64)), .long ((nI (yCrowd τ 1)).toInt64)] [] (zs_mix (ymx (ymx (ymx (ymx h5 ((zfv (ysr τ) (ynp τ) (yRt τ 0) (nI 0)).toInt64)) ((zfv (ysr τ) (ynp τ) (yRt τ 0) (nI 1)).toInt64)) ((zfv (ysr τ) (ynp τ) (yRt τ 0) (nI 2)).toInt64)) ((nI (yCrowd τ 0)).toInt64)) ((nI (yCrowd τ 1)).toInt64) μ18) rfl rfl ?_
  rintro _ _ ⟨rfl, rfl⟩
  refine zq_go zt_X8_digest 3 [] 196 [(0, .ref 0), (1, .long (ymx (ymx (ymx (ymx (ymx h5 ((zfv (ysr τ) (ynp τ) (yRt τ 0) (nI 0)).toInt64)) ((zfv (ysr τ) (ynp τ) (yRt τ 0) (nI 1)).toInt64)) ((zfv (ysr τ) (ynp τ) (yRt τ 0) (nI 2)).toInt64)) ((nI (yCrowd τ 0)).toInt64)) ((nI (yCrowd τ 1)).toInt64))), (3, .int ((nI 1) + (nI 1)))] [] μ18 rfl trivial ?_
  rw [zn_add 1 1]
  rw [show nI (1 + 1) = nI 2 from rfl]
  refine zq_go zt_X8_digest 3 [] (if (nI 2) < (nI 2) then 218 else 201) [(0, .ref 0), (1, .long (ymx (ymx (ymx (ymx (ymx h5 ((zfv (ysr τ) (ynp τ) (yRt τ 0) (nI 0)).toInt64)) ((zfv (ysr τ) (ynp τ) (yRt τ 0) (nI 1)).toInt64)) ((zfv (ysr τ) (ynp τ) (yRt τ 0) (nI 2)).toInt64)) ((nI (yCrowd τ 0)).toInt64)) ((nI (yCrowd τ 1)).toInt64))), (3, .int (nI 2))] [] μ18 rfl trivial ?_
  rw [if_neg (by decide)]
  refine zq_go zt_X8_digest 3 [] 204 [(0, .ref 0), (1, .long (ymx (ymx (ymx (ymx (ymx h5 ((zfv (ysr τ) (ynp τ) (yRt τ 0) (nI 0)).toInt64)) ((zfv (ysr τ) (ynp τ) (yRt τ 0) (nI 1)).toInt64)) ((zfv (ysr τ) (ynp τ) (yRt τ 0) (nI 2)).toInt64)) ((nI (yCrowd τ 0)).toInt64)) ((nI (yCrowd τ 1)).toInt64))), (3, .int (nI 2))] [.int (nI 2), .ref 0, .long (ymx (ymx (ymx (ymx (ymx h5 ((zfv (ysr τ) (ynp τ) (yRt τ 0) (nI 0)).toInt64)) ((zfv (ysr τ) (ynp τ) (yRt τ 0) (nI 1)).toInt64)) ((zfv (ysr τ) (ynp τ) (yRt τ 0) (nI 2)).toInt64)) ((nI (yCrowd τ 0)).toInt64)) ((nI (yCrowd τ 1)).toInt64))] μ18 rfl trivial ?_
  have q19 := zs_crowd (nI 2) i18
  rw [vCrowd_eq (by decide)] at q19
  refine zq_call zt_X8_digest [.ref 0, .int (nI 2)] [.long (ymx (ymx (ymx (ymx (ymx h5 ((zfv (ysr τ) (ynp τ) (yRt τ 0) (nI 0)).toInt64)) ((zfv (ysr τ) (ynp τ) (yRt τ 0) (nI 1)).toInt64)) ((zfv (ysr τ) (ynp τ) (yRt τ 0) (nI 2)).toInt64)) ((nI (yCrowd τ 0)).toInt64)) ((nI (yCrowd τ 1)).toInt64))] (q19) rfl rfl ?_
  rintro _ μ19 ⟨rfl, i19, g19⟩
  have f19 := (f18).tr g19
  refine zq_go zt_X8_digest 1 [] 208 [(0, .ref 0), (1, .long (ymx (ymx (ymx (ymx (ymx h5 ((zfv (ysr τ) (ynp τ) (yRt τ 0) (nI 0)).toInt64)) ((zfv (ysr τ) (ynp τ) (yRt τ 0) (nI 1)).toInt64)) ((zfv (ysr τ) (ynp τ) (yRt τ 0) (nI 2)).toInt64)) ((nI (yCrowd τ 0)).toInt64)) ((nI (yCrowd τ 1)).toInt64))), (3, .int (nI 2))] [.long ((nI (yCrowd τ 2)).toInt64), .long (ymx (ymx (ymx (ymx (ymx h5 ((zfv (ysr τ) (ynp τ) (yRt τ 0) (nI 0)).toInt64)) ((zfv (ysr τ) (ynp τ) (yRt τ 0) (nI 1)).toInt64)) ((zfv (ysr τ) (ynp τ) (yRt τ 0) (nI 2)).toInt64)) ((nI (yCrowd τ 0)).toInt64)) ((nI (yCrowd τ 1)).toInt64))] μ19 rfl trivial ?_
  refine zq_call zt_X8_digest [.long (ymx (ymx (ymx (ymx (ymx h5 ((zfv (ysr τ) (ynp τ) (yRt τ 0) (nI 0)).toInt64)) ((zfv (ysr τ) (ynp τ) (yRt τ 0) (nI 1)).toInt64)) ((zfv (ysr τ) (ynp τ) (yRt τ 0) (nI 2)).toInt64)) ((nI (yCrowd τ 0)).toInt64)) ((nI (yCrowd τ 1)).toInt64)), .long ((nI (yCrowd τ 2)).toInt64)] [] (zs_mix (ymx (ymx (ymx (ymx (ymx h5 ((zfv (ysr τ) (ynp τ) (yRt τ 0) (nI 0)).toInt64)) ((zfv (ysr τ) (ynp τ) (yRt τ 0) (nI 1)).toInt64)) ((zfv (ysr τ) (ynp τ) (yRt τ 0) (nI 2)).toInt64)) ((nI (yCrowd τ 0)).toInt64)) ((nI (yCrowd τ 1)).toInt64)) ((nI (yCrowd τ 2)).toInt64) μ19) rfl rfl ?_
  rintro _ _ ⟨rfl, rfl⟩
  refine zq_go zt_X8_digest 3 [] 196 [(0, .ref 0), (1, .long (ymx (ymx (ymx (ymx (ymx (ymx h5 ((zfv (ysr τ) (ynp τ) (yRt τ 0) (nI 0)).toInt64)) ((zfv (ysr τ) (ynp τ) (yRt τ 0) (nI 1)).toInt64)) ((zfv (ysr τ) (ynp τ) (yRt τ 0) (nI 2)).toInt64)) ((nI (yCrowd τ 0)).toInt64)) ((nI (yCrowd τ 1)).toInt64)) ((nI (yCrowd τ 2)).toInt64))), (3, .int ((nI 2) + (nI 1)))] [] μ19 rfl trivial ?_
  rw [zn_add 2 1]
  rw [show nI (2 + 1) = nI 3 from rfl]
  refine zq_go zt_X8_digest 3 [] (if (nI 2) < (nI 3) then 218 else 201) [(0, .ref 0), (1, .long (ymx (ymx (ymx (ymx (ymx (ymx h5 ((zfv (ysr τ) (ynp τ) (yRt τ 0) (nI 0)).toInt64)) ((zfv (ysr τ) (ynp τ) (yRt τ 0) (nI 1)).toInt64)) ((zfv (ysr τ) (ynp τ) (yRt τ 0) (nI 2)).toInt64)) ((nI (yCrowd τ 0)).toInt64)) ((nI (yCrowd τ 1)).toInt64)) ((nI (yCrowd τ 2)).toInt64))), (3, .int (nI 3))] [] μ19 rfl trivial ?_
  rw [if_pos (by decide)]
  refine zq_go zt_X8_digest 2 [] 220 [(0, .ref 0), (1, .long (ymx (ymx (ymx (ymx (ymx (ymx h5 ((zfv (ysr τ) (ynp τ) (yRt τ 0) (nI 0)).toInt64)) ((zfv (ysr τ) (ynp τ) (yRt τ 0) (nI 1)).toInt64)) ((zfv (ysr τ) (ynp τ) (yRt τ 0) (nI 2)).toInt64)) ((nI (yCrowd τ 0)).toInt64)) ((nI (yCrowd τ 1)).toInt64)) ((nI (yCrowd τ 2)).toInt64))), (3, .int (nI 3))] [.ref 0, .long (ymx (ymx (ymx (ymx (ymx (ymx h5 ((zfv (ysr τ) (ynp τ) (yRt τ 0) (nI 0)).toInt64)) ((zfv (ysr τ) (ynp τ) (yRt τ 0) (nI 1)).toInt64)) ((zfv (ysr τ) (ynp τ) (yRt τ 0) (nI 2)).toInt64)) ((nI (yCrowd τ 0)).toInt64)) ((nI (yCrowd τ 1)).toInt64)) ((nI (yCrowd τ 2)).toInt64))] μ19 rfl trivial ?_
  refine zq_call zt_X8_digest [.ref 0] [.long (ymx (ymx (ymx (ymx (ymx (ymx h5 ((zfv (ysr τ) (ynp τ) (yRt τ 0) (nI 0)).toInt64)) ((zfv (ysr τ) (ynp τ) (yRt τ 0) (nI 1)).toInt64)) ((zfv (ysr τ) (ynp τ) (yRt τ 0) (nI 2)).toInt64)) ((nI (yCrowd τ 0)).toInt64)) ((nI (yCrowd τ 1)).toInt64)) ((nI (yCrowd τ 2)).toInt64))] (zs_alone i19) rfl rfl ?_
  rintro _ μ20 ⟨rfl, i20, g20⟩
  have f20 := (f19).tr g20
  refine zq_go zt_X8_digest 1 [] 224 [(0, .ref 0), (1, .long (ymx (ymx (ymx (ymx (ymx (ymx h5 ((zfv (ysr τ) (ynp τ) (yRt τ 0) (nI 0)).toInt64)) ((zfv (ysr τ) (ynp τ) (yRt τ 0) (nI 1)).toInt64)) ((zfv (ysr τ) (ynp τ) (yRt τ 0) (nI 2)).toInt64)) ((nI (yCrowd τ 0)).toInt64)) ((nI (yCrowd τ 1)).toInt64)) ((nI (yCrowd τ 2)).toInt64))), (3, .int (nI 3))] [.long ((nI (zal (ynp τ) (yRt τ 0) 23)).toInt64), .long (ymx (ymx (ymx (ymx (ymx (ymx h5 ((zfv (ysr τ) (ynp τ) (yRt τ 0) (nI 0)).toInt64)) ((zfv (ysr τ) (ynp τ) (yRt τ 0) (nI 1)).toInt64)) ((zfv (ysr τ) (ynp τ) (yRt τ 0) (nI 2)).toInt64)) ((nI (yCrowd τ 0)).toInt64)) ((nI (yCrowd τ 1)).toInt64)) ((nI (yCrowd τ 2)).toInt64))] μ20 rfl trivial ?_
  refine zq_call zt_X8_digest [.long (ymx (ymx (ymx (ymx (ymx (ymx h5 ((zfv (ysr τ) (ynp τ) (yRt τ 0) (nI 0)).toInt64)) ((zfv (ysr τ) (ynp τ) (yRt τ 0) (nI 1)).toInt64)) ((zfv (ysr τ) (ynp τ) (yRt τ 0) (nI 2)).toInt64)) ((nI (yCrowd τ 0)).toInt64)) ((nI (yCrowd τ 1)).toInt64)) ((nI (yCrowd τ 2)).toInt64)), .long ((nI (zal (ynp τ) (yRt τ 0) 23)).toInt64)] [] (zs_mix (ymx (ymx (ymx (ymx (ymx (ymx h5 ((zfv (ysr τ) (ynp τ) (yRt τ 0) (nI 0)).toInt64)) ((zfv (ysr τ) (ynp τ) (yRt τ 0) (nI 1)).toInt64)) ((zfv (ysr τ) (ynp τ) (yRt τ 0) (nI 2)).toInt64)) ((nI (yCrowd τ 0)).toInt64)) ((nI (yCrowd τ 1)).toInt64)) ((nI (yCrowd τ 2)).toInt64)) ((nI (zal (ynp τ) (yRt τ 0) 23)).toInt64) μ20) rfl rfl ?_
  rintro _ _ ⟨rfl, rfl⟩
  refine zq_go zt_X8_digest 1 [] 228 [(0, .ref 0), (1, .long (ymx (ymx (ymx (ymx (ymx (ymx (ymx h5 ((zfv (ysr τ) (ynp τ) (yRt τ 0) (nI 0)).toInt64)) ((zfv (ysr τ) (ynp τ) (yRt τ 0) (nI 1)).toInt64)) ((zfv (ysr τ) (ynp τ) (yRt τ 0) (nI 2)).toInt64)) ((nI (yCrowd τ 0)).toInt64)) ((nI (yCrowd τ 1)).toInt64)) ((nI (yCrowd τ 2)).toInt64)) ((nI (zal (ynp τ) (yRt τ 0) 23)).toInt64))), (3, .int (nI 3))] [] μ20 rfl trivial ?_
  rw [show ymx (ymx (ymx (ymx (ymx (ymx (ymx h5 ((zfv (ysr τ) (ynp τ) (yRt τ 0) (nI 0)).toInt64)) ((zfv (ysr τ) (ynp τ) (yRt τ 0) (nI 1)).toInt64)) ((zfv (ysr τ) (ynp τ) (yRt τ 0) (nI 2)).toInt64)) ((nI (yCrowd τ 0)).toInt64)) ((nI (yCrowd τ 1)).toInt64)) ((nI (yCrowd τ 2)).toInt64)) ((nI (zal (ynp τ) (yRt τ 0) 23)).toInt64) = yD6 τ h5 from rfl]
  refine zq_go zt_X8_digest 4 [] 233 [(0, .ref 0), (1, .long (yD6 τ h5)), (3, .int (nI 3))] [.int (nI 0), .int (nI 8), .ref 0, .long (yD6 τ h5)] μ20 rfl trivial ?_
  refine zq_call zt_X8_digest [.ref 0, .int (nI 8), .int (nI 0)] [.long (yD6 τ h5)] (zs_nice (k := 8) (w := 0) (by decide) (by decide) i20) rfl rfl ?_
  rintro _ μ21 ⟨rfl, i21, g21⟩
  have f21 := (f20).tr g21
  refine zq_go zt_X8_digest 1 [] 237 [(0, .ref 0), (1, .long (yD6 τ h5)), (3, .int (nI 3))] [.long ((nI (ySl (ynf τ 8) 0)).toInt64), .long (yD6 τ h5)] μ21 rfl trivial ?_
  refine zq_call zt_X8_digest [.long (yD6 τ h5), .long ((nI (ySl (ynf τ 8) 0)).toInt64)] [] (zs_mix (yD6 τ h5) ((nI (ySl (ynf τ 8) 0)).toInt64) μ21) rfl rfl ?_
  rintro _ _ ⟨rfl, rfl⟩
  refine zq_go zt_X8_digest 3 [] 244 [(0, .ref 0), (1, .long (yD6 τ h5)), (3, .int (nI 3))] [.int (nI 1), .int (nI 8), .ref 0, .long (ymx (yD6 τ h5) ((nI (ySl (ynf τ 8) 0)).toInt64))] μ21 rfl trivial ?_
  refine zq_call zt_X8_digest [.ref 0, .int (nI 8), .int (nI 1)] [.long (ymx (yD6 τ h5) ((nI (ySl (ynf τ 8) 0)).toInt64))] (zs_nice (k := 8) (w := 1) (by decide) (by decide) i21) rfl rfl ?_
  rintro _ μ22 ⟨rfl, i22, g22⟩
  have f22 := (f21).tr g22
  refine zq_go zt_X8_digest 1 [] 248 [(0, .ref 0), (1, .long (yD6 τ h5)), (3, .int (nI 3))] [.long ((nI (ySl (ynf τ 8) 1)).toInt64), .long (ymx (yD6 τ h5) ((nI (ySl (ynf τ 8) 0)).toInt64))] μ22 rfl trivial ?_
  refine zq_call zt_X8_digest [.long (ymx (yD6 τ h5) ((nI (ySl (ynf τ 8) 0)).toInt64)), .long ((nI (ySl (ynf τ 8) 1)).toInt64)] [] (zs_mix (ymx (yD6 τ h5) ((nI (ySl (ynf τ 8) 0)).toInt64)) ((nI (ySl (ynf τ 8) 1)).toInt64) μ22) rfl rfl ?_
  rintro _ _ ⟨rfl, rfl⟩
  refine zq_go zt_X8_digest 4 [] 255 [(0, .ref 0), (1, .long (ymx (ymx (yD6 τ h5) ((nI (ySl (ynf τ 8) 0)).toInt64)) ((nI (ySl (ynf τ 8) 1)).toInt64))), (3, .int (nI 3))] [.int (nI 0), .ref 0, .long (ymx (ymx (yD6 τ h5) ((nI (ySl (ynf τ 8) 0)).toInt64)) ((nI (ySl (ynf τ 8) 1)).toInt64))] μ22 rfl trivial ?_
  refine zq_call zt_X8_digest [.ref 0, .int (nI 0)] [.long (ymx (ymx (yD6 τ h5) ((nI (ySl (ynf τ 8) 0)).toInt64)) ((nI (ySl (ynf τ 8) 1)).toInt64))] (zs_lens (w := 0) (by decide) i22) rfl rfl ?_
  rintro _ μ23 ⟨rfl, i23, g23⟩
  have f23 := (f22).tr g23
  refine zq_go zt_X8_digest 1 [] 259 [(0, .ref 0), (1, .long (ymx (ymx (yD6 τ h5) ((nI (ySl (ynf τ 8) 0)).toInt64)) ((nI (ySl (ynf τ 8) 1)).toInt64))), (3, .int (nI 3))] [.long ((yLe τ 0).toInt64), .long (ymx (ymx (yD6 τ h5) ((nI (ySl (ynf τ 8) 0)).toInt64)) ((nI (ySl (ynf τ 8) 1)).toInt64))] μ23 rfl trivial ?_
  refine zq_call zt_X8_digest [.long (ymx (ymx (yD6 τ h5) ((nI (ySl (ynf τ 8) 0)).toInt64)) ((nI (ySl (ynf τ 8) 1)).toInt64)), .long ((yLe τ 0).toInt64)] [] (zs_mix (ymx (ymx (yD6 τ h5) ((nI (ySl (ynf τ 8) 0)).toInt64)) ((nI (ySl (ynf τ 8) 1)).toInt64)) ((yLe τ 0).toInt64) μ23) rfl rfl ?_
  rintro _ _ ⟨rfl, rfl⟩
  refine zq_go zt_X8_digest 2 [] 264 [(0, .ref 0), (1, .long (ymx (ymx (yD6 τ h5) ((nI (ySl (ynf τ 8) 0)).toInt64)) ((nI (ySl (ynf τ 8) 1)).toInt64))), (3, .int (nI 3))] [.int (nI 1), .ref 0, .long (ymx (ymx (ymx (yD6 τ h5) ((nI (ySl (ynf τ 8) 0)).toInt64)) ((nI (ySl (ynf τ 8) 1)).toInt64)) ((yLe τ 0).toInt64))] μ23 rfl trivial ?_
  refine zq_call zt_X8_digest [.ref 0, .int (nI 1)] [.long (ymx (ymx (ymx (yD6 τ h5) ((nI (ySl (ynf τ 8) 0)).toInt64)) ((nI (ySl (ynf τ 8) 1)).toInt64)) ((yLe τ 0).toInt64))] (zs_lens (w := 1) (by decide) i23) rfl rfl ?_
  rintro _ μ24 ⟨rfl, i24, g24⟩
  have f24 := (f23).tr g24
  refine zq_go zt_X8_digest 1 [] 268 [(0, .ref 0), (1, .long (ymx (ymx (yD6 τ h5) ((nI (ySl (ynf τ 8) 0)).toInt64)) ((nI (ySl (ynf τ 8) 1)).toInt64))), (3, .int (nI 3))] [.long ((yLe τ 1).toInt64), .long (ymx (ymx (ymx (yD6 τ h5) ((nI (ySl (ynf τ 8) 0)).toInt64)) ((nI (ySl (ynf τ 8) 1)).toInt64)) ((yLe τ 0).toInt64))] μ24 rfl trivial ?_
  refine zq_call zt_X8_digest [.long (ymx (ymx (ymx (yD6 τ h5) ((nI (ySl (ynf τ 8) 0)).toInt64)) ((nI (ySl (ynf τ 8) 1)).toInt64)) ((yLe τ 0).toInt64)), .long ((yLe τ 1).toInt64)] [] (zs_mix (ymx (ymx (ymx (yD6 τ h5) ((nI (ySl (ynf τ 8) 0)).toInt64)) ((nI (ySl (ynf τ 8) 1)).toInt64)) ((yLe τ 0).toInt64)) ((yLe τ 1).toInt64) μ24) rfl rfl ?_
  rintro _ _ ⟨rfl, rfl⟩
  refine zq_go zt_X8_digest 1 [] 272 [(0, .ref 0), (1, .long (ymx (ymx (ymx (ymx (yD6 τ h5) ((nI (ySl (ynf τ 8) 0)).toInt64)) ((nI (ySl (ynf τ 8) 1)).toInt64)) ((yLe τ 0).toInt64)) ((yLe τ 1).toInt64))), (3, .int (nI 3))] [] μ24 rfl trivial ?_
  rw [show ymx (ymx (ymx (ymx (yD6 τ h5) ((nI (ySl (ynf τ 8) 0)).toInt64)) ((nI (ySl (ynf τ 8) 1)).toInt64)) ((yLe τ 0).toInt64)) ((yLe τ 1).toInt64) = yD7 τ (yD6 τ h5) from rfl]
  refine zq_go zt_X8_digest 3 [] 275 [(0, .ref 0), (1, .long (yD7 τ (yD6 τ h5))), (3, .int (nI 3))] [.int (-1), .ref 0, .long (yD7 τ (yD6 τ h5))] μ24 rfl trivial ?_
  refine zq_call zt_X8_digest [.ref 0, .int (-1)] [.long (yD7 τ (yD6 τ h5))] (zs_spare_m i24) rfl rfl ?_
  rintro _ μ25 ⟨rfl, i25, g25⟩
  have f25 := (f24).tr g25
  refine zq_go zt_X8_digest 1 [] 279 [(0, .ref 0), (1, .long (yD7 τ (yD6 τ h5))), (3, .int (nI 3))] [.long ((ySv τ (-1)).toInt64), .long (yD7 τ (yD6 τ h5))] μ25 rfl trivial ?_
  refine zq_call zt_X8_digest [.long (yD7 τ (yD6 τ h5)), .long ((ySv τ (-1)).toInt64)] [] (zs_mix (yD7 τ (yD6 τ h5)) ((ySv τ (-1)).toInt64) μ25) rfl rfl ?_
  rintro _ _ ⟨rfl, rfl⟩
  refine zq_go zt_X8_digest 2 [] 284 [(0, .ref 0), (1, .long (yD7 τ (yD6 τ h5))), (3, .int (nI 3))] [.int (nI 0), .ref 0, .long (ymx (yD7 τ (yD6 τ h5)) ((ySv τ (-1)).toInt64))] μ25 rfl trivial ?_
  refine zq_call zt_X8_digest [.ref 0, .int (nI 0)] [.long (ymx (yD7 τ (yD6 τ h5)) ((ySv τ (-1)).toInt64))] (zs_spare_0 i25) rfl rfl ?_
  rintro _ μ26 ⟨rfl, i26, g26⟩
  have f26 := (f25).tr g26
  refine zq_go zt_X8_digest 1 [] 288 [(0, .ref 0), (1, .long (yD7 τ (yD6 τ h5))), (3, .int (nI 3))] [.long ((ySv τ (nI 0)).toInt64), .long (ymx (yD7 τ (yD6 τ h5)) ((ySv τ (-1)).toInt64))] μ26 rfl trivial ?_
  refine zq_call zt_X8_digest [.long (ymx (yD7 τ (yD6 τ h5)) ((ySv τ (-1)).toInt64)), .long ((ySv τ (nI 0)).toInt64)] [] (zs_mix (ymx (yD7 τ (yD6 τ h5)) ((ySv τ (-1)).toInt64)) ((ySv τ (nI 0)).toInt64) μ26) rfl rfl ?_
  rintro _ _ ⟨rfl, rfl⟩
  refine zq_go zt_X8_digest 3 [] 294 [(0, .ref 0), (1, .long (ymx (ymx (yD7 τ (yD6 τ h5)) ((ySv τ (-1)).toInt64)) ((ySv τ (nI 0)).toInt64))), (3, .int (nI 3))] [.ref 0, .long (ymx (ymx (yD7 τ (yD6 τ h5)) ((ySv τ (-1)).toInt64)) ((ySv τ (nI 0)).toInt64))] μ26 rfl trivial ?_
  refine zq_call zt_X8_digest [.ref 0] [.long (ymx (ymx (yD7 τ (yD6 τ h5)) ((ySv τ (-1)).toInt64)) ((ySv τ (nI 0)).toInt64))] (zs_never i26) rfl rfl ?_
  rintro _ μ27 ⟨rfl, i27, g27⟩
  have f27 := (f26).tr g27
  refine zq_go zt_X8_digest 1 [] 298 [(0, .ref 0), (1, .long (ymx (ymx (yD7 τ (yD6 τ h5)) ((ySv τ (-1)).toInt64)) ((ySv τ (nI 0)).toInt64))), (3, .int (nI 3))] [.long ((nI (zm (ynv τ S) (yne τ))).toInt64), .long (ymx (ymx (yD7 τ (yD6 τ h5)) ((ySv τ (-1)).toInt64)) ((ySv τ (nI 0)).toInt64))] μ27 rfl trivial ?_
  refine zq_call zt_X8_digest [.long (ymx (ymx (yD7 τ (yD6 τ h5)) ((ySv τ (-1)).toInt64)) ((ySv τ (nI 0)).toInt64)), .long ((nI (zm (ynv τ S) (yne τ))).toInt64)] [] (zs_mix (ymx (ymx (yD7 τ (yD6 τ h5)) ((ySv τ (-1)).toInt64)) ((ySv τ (nI 0)).toInt64)) ((nI (zm (ynv τ S) (yne τ))).toInt64) μ27) rfl rfl ?_
  rintro _ _ ⟨rfl, rfl⟩
  refine zq_go zt_X8_digest 6 [] 309 [(0, .ref 0), (1, .long (ymx (ymx (ymx (yD7 τ (yD6 τ h5)) ((ySv τ (-1)).toInt64)) ((ySv τ (nI 0)).toInt64)) ((nI (zm (ynv τ S) (yne τ))).toInt64))), (3, .int (nI 3))] [.int (nI 0), .int (nI 6), .int (nI 7), .ref 0, .long (ymx (ymx (ymx (yD7 τ (yD6 τ h5)) ((ySv τ (-1)).toInt64)) ((ySv τ (nI 0)).toInt64)) ((nI (zm (ynv τ S) (yne τ))).toInt64))] μ27 rfl trivial ?_
  refine zq_call zt_X8_digest [.ref 0, .int (nI 7), .int (nI 6), .int (nI 0)] [.long (ymx (ymx (ymx (yD7 τ (yD6 τ h5)) ((ySv τ (-1)).toInt64)) ((ySv τ (nI 0)).toInt64)) ((nI (zm (ynv τ S) (yne τ))).toInt64))] (zs_weeks (nI 7) (n := 6) (w := 0) (by decide) (by decide) i27) rfl rfl ?_
  rintro _ μ28 ⟨rfl, i28, g28⟩
  have f28 := (f27).tr g28
  refine zq_go zt_X8_digest 1 [] 313 [(0, .ref 0), (1, .long (ymx (ymx (ymx (yD7 τ (yD6 τ h5)) ((ySv τ (-1)).toInt64)) ((ySv τ (nI 0)).toInt64)) ((nI (zm (ynv τ S) (yne τ))).toInt64))), (3, .int (nI 3))] [.long ((nI (yWk τ (nI 7) 6 0)).toInt64), .long (ymx (ymx (ymx (yD7 τ (yD6 τ h5)) ((ySv τ (-1)).toInt64)) ((ySv τ (nI 0)).toInt64)) ((nI (zm (ynv τ S) (yne τ))).toInt64))] μ28 rfl trivial ?_
  refine zq_call zt_X8_digest [.long (ymx (ymx (ymx (yD7 τ (yD6 τ h5)) ((ySv τ (-1)).toInt64)) ((ySv τ (nI 0)).toInt64)) ((nI (zm (ynv τ S) (yne τ))).toInt64)), .long ((nI (yWk τ (nI 7) 6 0)).toInt64)] [] (zs_mix (ymx (ymx (ymx (yD7 τ (yD6 τ h5)) ((ySv τ (-1)).toInt64)) ((ySv τ (nI 0)).toInt64)) ((nI (zm (ynv τ S) (yne τ))).toInt64)) ((nI (yWk τ (nI 7) 6 0)).toInt64) μ28) rfl rfl ?_
  rintro _ _ ⟨rfl, rfl⟩
  refine zq_go zt_X8_digest 4 [] 322 [(0, .ref 0), (1, .long (ymx (ymx (ymx (yD7 τ (yD6 τ h5)) ((ySv τ (-1)).toInt64)) ((ySv τ (nI 0)).toInt64)) ((nI (zm (ynv τ S) (yne τ))).toInt64))), (3, .int (nI 3))] [.int (nI 1), .int (nI 6), .int (nI 7), .ref 0, .long (ymx (ymx (ymx (ymx (yD7 τ (yD6 τ h5)) ((ySv τ (-1)).toInt64)) ((ySv τ (nI 0)).toInt64)) ((nI (zm (ynv τ S) (yne τ))).toInt64)) ((nI (yWk τ (nI 7) 6 0)).toInt64))] μ28 rfl trivial ?_
  refine zq_call zt_X8_digest [.ref 0, .int (nI 7), .int (nI 6), .int (nI 1)] [.long (ymx (ymx (ymx (ymx (yD7 τ (yD6 τ h5)) ((ySv τ (-1)).toInt64)) ((ySv τ (nI 0)).toInt64)) ((nI (zm (ynv τ S) (yne τ))).toInt64)) ((nI (yWk τ (nI 7) 6 0)).toInt64))] (zs_weeks (nI 7) (n := 6) (w := 1) (by decide) (by decide) i28) rfl rfl ?_
  rintro _ μ29 ⟨rfl, i29, g29⟩
  have f29 := (f28).tr g29
  refine zq_go zt_X8_digest 1 [] 326 [(0, .ref 0), (1, .long (ymx (ymx (ymx (yD7 τ (yD6 τ h5)) ((ySv τ (-1)).toInt64)) ((ySv τ (nI 0)).toInt64)) ((nI (zm (ynv τ S) (yne τ))).toInt64))), (3, .int (nI 3))] [.long ((nI (yWk τ (nI 7) 6 1)).toInt64), .long (ymx (ymx (ymx (ymx (yD7 τ (yD6 τ h5)) ((ySv τ (-1)).toInt64)) ((ySv τ (nI 0)).toInt64)) ((nI (zm (ynv τ S) (yne τ))).toInt64)) ((nI (yWk τ (nI 7) 6 0)).toInt64))] μ29 rfl trivial ?_
  refine zq_call zt_X8_digest [.long (ymx (ymx (ymx (ymx (yD7 τ (yD6 τ h5)) ((ySv τ (-1)).toInt64)) ((ySv τ (nI 0)).toInt64)) ((nI (zm (ynv τ S) (yne τ))).toInt64)) ((nI (yWk τ (nI 7) 6 0)).toInt64)), .long ((nI (yWk τ (nI 7) 6 1)).toInt64)] [] (zs_mix (ymx (ymx (ymx (ymx (yD7 τ (yD6 τ h5)) ((ySv τ (-1)).toInt64)) ((ySv τ (nI 0)).toInt64)) ((nI (zm (ynv τ S) (yne τ))).toInt64)) ((nI (yWk τ (nI 7) 6 0)).toInt64)) ((nI (yWk τ (nI 7) 6 1)).toInt64) μ29) rfl rfl ?_
  rintro _ _ ⟨rfl, rfl⟩
  exact zq_retn zt_X8_digest rfl rfl (⟨rfl, i29, f29⟩)
set_option maxRecDepth 100000 in
set_option maxHeartbeats 400000 in
theorem zs_hourDigest {τ : zTd} {S : zES} {H : zSH} {μ0 : zq_Me} {h : Int64} {x p : Nat} (lx : x ≤ 23) (lp : p < ynp τ) (hM : zIm τ S H μ0) : zq_Wp zn_X9_hourDigest 0 [(0, .ref 50), (1, .long h), (3, .int (nI x)), (4, .int (nI p))] [] μ0 (zRm' (.long (ymx (ymx h ((yAt τ x p 0).toInt64)) ((yAt τ x p 1).toInt64))) τ S H μ0) := by
  refine zq_go zt_X9_hourDigest 7 [] 10 [(0, .ref 50), (1, .long h), (3, .int (nI x)), (4, .int (nI p))] [.int (nI 0), .int (nI p), .int (nI x), .ref 50, .long (31 * h)] μ0 rfl trivial ?_
  refine zq_call zt_X9_hourDigest [.ref 50, .int (nI x), .int (nI p), .int (nI 0)] [.long (31 * h)] (zs_atOf lx lp (w := 0) (by decide) hM) rfl rfl ?_
  rintro _ μ1 ⟨rfl, i1, g1⟩
  have f1 := g1
  refine zq_go zt_X9_hourDigest 3 [] 17 [(0, .ref 50), (1, .long h), (3, .int (nI x)), (4, .int (nI p)), (5, .long ((31 * h) + ((yAt τ x p 0).toInt64)))] [] μ1 rfl trivial ?_
  rw [show (31 * h) + ((yAt τ x p 0).toInt64) = ymx h ((yAt τ x p 0).toInt64) from rfl]
  refine zq_go zt_X9_hourDigest 7 [] 28 [(0, .ref 50), (1, .long h), (3, .int (nI x)), (4, .int (nI p)), (5, .long (ymx h ((yAt τ x p 0).toInt64)))] [.int (nI 1), .int (nI p), .int (nI x), .ref 50, .long (31 * (ymx h ((yAt τ x p 0).toInt64)))] μ1 rfl trivial ?_
  refine zq_call zt_X9_hourDigest [.ref 50, .int (nI x), .int (nI p), .int (nI 1)] [.long (31 * (ymx h ((yAt τ x p 0).toInt64)))] (zs_atOf lx lp (w := 1) (by decide) i1) rfl rfl ?_
  rintro _ μ2 ⟨rfl, i2, g2⟩
  have f2 := (f1).tr g2
  refine zq_go zt_X9_hourDigest 2 [] 33 [(0, .ref 50), (1, .long h), (3, .int (nI x)), (4, .int (nI p)), (5, .long (ymx h ((yAt τ x p 0).toInt64)))] [.long ((31 * (ymx h ((yAt τ x p 0).toInt64))) + ((yAt τ x p 1).toInt64))] μ2 rfl trivial ?_
  exact zq_retn zt_X9_hourDigest rfl rfl (⟨rfl, i2, f2⟩)
set_option maxRecDepth 100000 in
set_option maxHeartbeats 400000 in
theorem zs_metOf2 {τ : zTd} {S : zES} {H : zSH} {μ0 : zq_Me} {a b : Nat} (la : a < ynp τ) (lb : b < ynp τ) (hM : zIm τ S H μ0) : zq_Wp zn_X9_metOf 0 [(0, .ref 50), (1, .int (nI a)), (2, .int (nI b))] [] μ0 (fun r μ => r = some (.int (yMeet τ a b)) ∧ zIm τ S H μ ∧ zq_fr zSM μ0 μ ∧ zPm (ynp τ) (ysr τ) (yst τ) (ybd τ) μ) := by
  refine zq_go zt_X9_metOf 1 [] 1 [(0, .ref 50), (1, .int (nI a)), (2, .int (nI b))] [.ref 50] μ0 rfl trivial ?_
  refine zq_call zt_X9_metOf [.ref 50] [] (zs_runsTold hM) rfl rfl ?_
  rintro _ ν1 ⟨rfl, n1, k1, o1, r1, q1⟩
  refine zq_go zt_X9_metOf 4 [] 10 [(0, .ref 50), (1, .int (nI a)), (2, .int (nI b)), (3, .int (-1)), (4, .int (nI 23))] [] ν1 rfl trivial ?_
  rw [show (-1 : Int32) = zfr (fun h => decide (yRt τ 0 a h = yRt τ 0 b h)) 24 from (zfr_24 _).symm]
  refine zs_metOf_l q1 la lb ?_ 24 (by omega)
  refine zq_go zt_X9_metOf 1 [] 56 [(3, .int (yMeet τ a b))] [.int (yMeet τ a b)] ν1 rfl trivial ?_
  exact zq_retn zt_X9_metOf rfl rfl (⟨rfl, n1, k1, o1.2.1⟩)
set_option maxRecDepth 100000 in
set_option maxHeartbeats 400000 in
theorem zs_farOf2 {τ : zTd} {S : zES} {H : zSH} {μ0 : zq_Me} {h x t : Nat} (lh : h ≤ 23) (lx : x ≤ 7) (lt : t ≤ 7) (hM : zIm τ S H μ0) : zq_Wp zn_X9_farOf 0 [(0, .ref 50), (1, .int (nI h)), (2, .int (nI x)), (3, .int (nI t))] [] μ0 (fun r μ => r = some (.int (yFar τ h x t)) ∧ zIm τ S H μ ∧ zq_fr zSM μ0 μ ∧ zPm (ynp τ) (ysr τ) (yst τ) (ybd τ) μ) := by
  refine zq_go zt_X9_farOf 1 [] 1 [(0, .ref 50), (1, .int (nI h)), (2, .int (nI x)), (3, .int (nI t))] [.ref 50] μ0 rfl trivial ?_
  refine zq_call zt_X9_farOf [.ref 50] [] (zs_runsTold hM) rfl rfl ?_
  rintro _ ν1 ⟨rfl, n1, k1, o1, r1, q1⟩
  have hr9 := r1.2 h (by omega) x t (by omega) (by omega)
  have hd9 := zfD_lt (zg_d (zg_adj (yo1 τ) (yo2 τ) (zSh (yek τ) (yeh τ) (yen τ) 0 (yne τ) h) (ynd τ)) t x)
  refine zq_go zt_X9_farOf 16 [vp_in ((((nI 64) * (nI h)) + ((nI 8) * (nI x))) + (nI t)) 1536] (if (nI 99) ≤ (ν1.1 65 (((((nI 64) * (nI h)) + ((nI 8) * (nI x))) + (nI t)).toNatClampNeg)) then 34 else 29) [(0, .ref 50), (1, .int (nI h)), (2, .int (nI x)), (3, .int (nI t)), (4, .int (ν1.1 65 (((((nI 64) * (nI h)) + ((nI 8) * (nI x))) + (nI t)).toNatClampNeg)))] [] ν1 rfl ⟨zn_in (k := ((64 * h) + (8 * x)) + t) (by rw [zn_mul 64 h, zn_mul 8 x, zn_add (64 * h) (8 * x), zn_add ((64 * h) + (8 * x)) t]) (by omega) (by decide), trivial⟩ ?_
  rw [zn_mul 64 h, zn_mul 8 x, zn_add (64 * h) (8 * x), zn_add ((64 * h) + (8 * x)) t, zn_cl (n := ((64 * h) + (8 * x)) + t) (by omega), hr9]
  have e0 : yFar τ h x t = if zg_d (zg_adj (yo1 τ) (yo2 τ) (zSh (yek τ) (yeh τ) (yen τ) 0 (yne τ) h) (ynd τ)) t x < 8 then nI (zg_d (zg_adj (yo1 τ) (yo2 τ) (zSh (yek τ) (yeh τ) (yen τ) 0 (yne τ) h) (ynd τ)) t x) else -1 := rfl
  refine zq_ite (fun h8 => ?_) (fun h8 => ?_)
  · rw [zn_le (by omega) (by omega)] at h8
    unfold zfD at h8
    rw [e0, if_neg (fun q => by rw [if_pos q] at h8; omega)]
    refine zq_go zt_X9_farOf 1 [] 35 [(0, .ref 50), (1, .int (nI h)), (2, .int (nI x)), (3, .int (nI t)), (4, .int (nI (zfD (zg_d (zg_adj (yo1 τ) (yo2 τ) (zSh (yek τ) (yeh τ) (yen τ) 0 (yne τ) h) (ynd τ)) t x))))] [.int (-1)] ν1 rfl trivial ?_
    exact zq_retn zt_X9_farOf rfl rfl (⟨rfl, n1, k1, o1.2.1⟩)
  · rw [zn_le (by omega) (by omega)] at h8
    have h8 : zg_d (zg_adj (yo1 τ) (yo2 τ) (zSh (yek τ) (yeh τ) (yen τ) 0 (yne τ) h) (ynd τ)) t x < 8 := by
      unfold zfD at h8
      split at h8 <;> omega
    rw [e0, if_pos h8]
    refine zq_go zt_X9_farOf 2 [] 35 [(0, .ref 50), (1, .int (nI h)), (2, .int (nI x)), (3, .int (nI t)), (4, .int (nI (zfD (zg_d (zg_adj (yo1 τ) (yo2 τ) (zSh (yek τ) (yeh τ) (yen τ) 0 (yne τ) h) (ynd τ)) t x))))] [.int (nI (zfD (zg_d (zg_adj (yo1 τ) (yo2 τ) (zSh (yek τ) (yeh τ) (yen τ) 0 (yne τ) h) (ynd τ)) t x)))] ν1 rfl trivial ?_
    rw [show zfD (zg_d (zg_adj (yo1 τ) (yo2 τ) (zSh (yek τ) (yeh τ) (yen τ) 0 (yne τ) h) (ynd τ)) t x) = zg_d (zg_adj (yo1 τ) (yo2 τ) (zSh (yek τ) (yeh τ) (yen τ) 0 (yne τ) h) (ynd τ)) t x from if_pos h8]
    exact zq_retn zt_X9_farOf rfl rfl (⟨rfl, n1, k1, o1.2.1⟩)
set_option maxRecDepth 100000 in
set_option maxHeartbeats 400000 in
theorem zs_personDigest {τ : zTd} {S : zES} {H : zSH} {μ0 : zq_Me} {h : Int64} {p : Nat} (lp : p < ynp τ) (hP : zPm (ynp τ) (ysr τ) (yst τ) (ybd τ) μ0) (hM : zIm τ S H μ0) : zq_Wp zn_X9_personDigest 0 [(0, .ref 50), (1, .long h), (3, .int (nI p))] [] μ0 (fun r μ => r = some (.long (yPrs τ S h p)) ∧ zIm τ S H μ ∧ zq_fr zSM μ0 μ ∧ zPm (ynp τ) (ysr τ) (yst τ) (ybd τ) μ) := by
  have hnp := hP.1
  refine zq_go zt_X9_personDigest 4 [] 6 [(0, .ref 50), (1, .long h), (3, .int (nI p)), (4, .long h), (6, .int (nI 0))] [] μ0 rfl trivial ?_
  refine zq_go zt_X9_personDigest 3 [] (if (nI 3) ≤ (nI 0) then 35 else 12) [(0, .ref 50), (1, .long h), (3, .int (nI p)), (4, .long h), (6, .int (nI 0))] [] μ0 rfl trivial ?_
  rw [if_neg (by decide)]
  refine zq_go zt_X9_personDigest 6 [] 22 [(0, .ref 50), (1, .long h), (3, .int (nI p)), (4, .long h), (6, .int (nI 0))] [.int (nI 0), .int (nI p), .ref 50, .long (31 * h)] μ0 rfl trivial ?_
  refine zq_call zt_X9_personDigest [.ref 50, .int (nI p), .int (nI 0)] [.long (31 * h)] (zs_personOf hP lp (w := 0) (by decide)) rfl rfl ?_
  rintro _ _ ⟨rfl, rfl⟩
  refine zq_go zt_X9_personDigest 5 [] 6 [(0, .ref 50), (1, .long h), (3, .int (nI p)), (4, .long ((31 * h) + ((nI (yPers τ p 0)).toInt64))), (6, .int ((nI 0) + (nI 1)))] [] μ0 rfl trivial ?_
  rw [zn_add 0 1]
  rw [show (31 * h) + ((nI (yPers τ p 0)).toInt64) = ymx h ((nI (yPers τ p 0)).toInt64) from rfl]
  rw [show nI (0 + 1) = nI 1 from rfl]
  refine zq_go zt_X9_personDigest 3 [] (if (nI 3) ≤ (nI 1) then 35 else 12) [(0, .ref 50), (1, .long h), (3, .int (nI p)), (4, .long (ymx h ((nI (yPers τ p 0)).toInt64))), (6, .int (nI 1))] [] μ0 rfl trivial ?_
  rw [if_neg (by decide)]
  refine zq_go zt_X9_personDigest 6 [] 22 [(0, .ref 50), (1, .long h), (3, .int (nI p)), (4, .long (ymx h ((nI (yPers τ p 0)).toInt64))), (6, .int (nI 1))] [.int (nI 1), .int (nI p), .ref 50, .long (31 * (ymx h ((nI (yPers τ p 0)).toInt64)))] μ0 rfl trivial ?_
  refine zq_call zt_X9_personDigest [.ref 50, .int (nI p), .int (nI 1)] [.long (31 * (ymx h ((nI (yPers τ p 0)).toInt64)))] (zs_personOf hP lp (w := 1) (by decide)) rfl rfl ?_
  rintro _ _ ⟨rfl, rfl⟩
  refine zq_go zt_X9_personDigest 5 [] 6 [(0, .ref 50), (1, .long h), (3, .int (nI p)), (4, .long ((31 * (ymx h ((nI (yPers τ p 0)).toInt64))) + ((nI (yPers τ p 1)).toInt64))), (6, .int ((nI 1) + (nI 1)))] [] μ0 rfl trivial ?_
  rw [zn_add 1 1]
  rw [show (31 * (ymx h ((nI (yPers τ p 0)).toInt64))) + ((nI (yPers τ p 1)).toInt64) = ymx (ymx h ((nI (yPers τ p 0)).toInt64)) ((nI (yPers τ p 1)).toInt64) from rfl]
  rw [show nI (1 + 1) = nI 2 from rfl]
  refine zq_go zt_X9_personDigest 3 [] (if (nI 3) ≤ (nI 2) then 35 else 12) [(0, .ref 50), (1, .long h), (3, .int (nI p)), (4, .long (ymx (ymx h ((nI (yPers τ p 0)).toInt64)) ((nI (yPers τ p 1)).toInt64))), (6, .int (nI 2))] [] μ0 rfl trivial ?_
  rw [if_neg (by decide)]
  refine zq_go zt_X9_personDigest 6 [] 22 [(0, .ref 50), (1, .long h), (3, .int (nI p)), (4, .long (ymx (ymx h ((nI (yPers τ p 0)).toInt64)) ((nI (yPers τ p 1)).toInt64))), (6, .int (nI 2))] [.int (nI 2), .int (nI p), .ref 50, .long (31 * (ymx (ymx h ((nI (yPers τ p 0)).toInt64)) ((nI (yPers τ p 1)).toInt64)))] μ0 rfl trivial ?_
  refine zq_call zt_X9_personDigest [.ref 50, .int (nI p), .int (nI 2)] [.long (31 * (ymx (ymx h ((nI (yPers τ p 0)).toInt64)) ((nI (yPers τ p 1)).toInt64)))] (zs_personOf hP lp (w := 2) (by decide)) rfl rfl ?_
  rintro _ _ ⟨rfl, rfl⟩
  refine zq_go zt_X9_personDigest 5 [] 6 [(0, .ref 50), (1, .long h), (3, .int (nI p)), (4, .long ((31 * (ymx (ymx h ((nI (yPers τ p 0)).toInt64)) ((nI (yPers τ p 1)).toInt64))) + ((nI (yPers τ p 2)).toInt64))), (6, .int ((nI 2) + (nI 1)))] [] μ0 rfl trivial ?_
  rw [zn_add 2 1]
  rw [show (31 * (ymx (ymx h ((nI (yPers τ p 0)).toInt64)) ((nI (yPers τ p 1)).toInt64))) + ((nI (yPers τ p 2)).toInt64) = ymx (ymx (ymx h ((nI (yPers τ p 0)).toInt64)) ((nI (yPers τ p 1)).toInt64)) ((nI (yPers τ p 2)).toInt64) from rfl]
  rw [show nI (2 + 1) = nI 3 from rfl]
  refine zq_go zt_X9_personDigest 3 [] (if (nI 3) ≤ (nI 3) then 35 else 12) [(0, .ref 50), (1, .long h), (3, .int (nI p)), (4, .long (ymx (ymx (ymx h ((nI (yPers τ p 0)).toInt64)) ((nI (yPers τ p 1)).toInt64)) ((nI (yPers τ p 2)).toInt64))), (6, .int (nI 3))] [] μ0 rfl trivial ?_
  rw [if_pos (by decide)]
  refine zq_go zt_X9_personDigest 4 [] 40 [(0, .ref 50), (1, .long h), (3, .int (nI p)), (4, .long (ymx (ymx (ymx h ((nI (yPers τ p 0)).toInt64)) ((nI (yPers τ p 1)).toInt64)) ((nI (yPers τ p 2)).toInt64))), (6, .int (nI 3))] [.int (nI p), .int (nI 0), .long (ymx (ymx (ymx h ((nI (yPers τ p 0)).toInt64)) ((nI (yPers τ p 1)).toInt64)) ((nI (yPers τ p 2)).toInt64)), .ref 50] μ0 rfl trivial ?_
  refine zq_call zt_X9_personDigest [.ref 50, .long (ymx (ymx (ymx h ((nI (yPers τ p 0)).toInt64)) ((nI (yPers τ p 1)).toInt64)) ((nI (yPers τ p 2)).toInt64)), .int (nI 0), .int (nI p)] [] (zs_hourDigest (h := ymx (ymx (ymx h ((nI (yPers τ p 0)).toInt64)) ((nI (yPers τ p 1)).toInt64)) ((nI (yPers τ p 2)).toInt64)) (x := 0) (by decide) lp hM) rfl rfl ?_
  rintro _ μ1 ⟨rfl, i1, g1⟩
  have f1 := g1
  refine zq_go zt_X9_personDigest 5 [] 50 [(0, .ref 50), (1, .long h), (3, .int (nI p)), (4, .long (ymx (ymx (ymx (ymx (ymx h ((nI (yPers τ p 0)).toInt64)) ((nI (yPers τ p 1)).toInt64)) ((nI (yPers τ p 2)).toInt64)) ((yAt τ 0 p 0).toInt64)) ((yAt τ 0 p 1).toInt64))), (6, .int (nI 3))] [.int (nI p), .int (nI 5), .long (ymx (ymx (ymx (ymx (ymx h ((nI (yPers τ p 0)).toInt64)) ((nI (yPers τ p 1)).toInt64)) ((nI (yPers τ p 2)).toInt64)) ((yAt τ 0 p 0).toInt64)) ((yAt τ 0 p 1).toInt64)), .ref 50] μ1 rfl trivial ?_
  refine zq_call zt_X9_personDigest [.ref 50, .long (ymx (ymx (ymx (ymx (ymx h ((nI (yPers τ p 0)).toInt64)) ((nI (yPers τ p 1)).toInt64)) ((nI (yPers τ p 2)).toInt64)) ((yAt τ 0 p 0).toInt64)) ((yAt τ 0 p 1).toInt64)), .int (nI 5), .int (nI p)] [] (zs_hourDigest (h := ymx (ymx (ymx (ymx (ymx h ((nI (yPers τ p 0)).toInt64)) ((nI (yPers τ p 1)).toInt64)) ((nI (yPers τ p 2)).toInt64)) ((yAt τ 0 p 0).toInt64)) ((yAt τ 0 p 1).toInt64)) (x := 5) (by decide) lp i1) rfl rfl ?_
  rintro _ μ2 ⟨rfl, i2, g2⟩
  have f2 := (f1).tr g2
  refine zq_go zt_X9_personDigest 5 [] 61 [(0, .ref 50), (1, .long h), (3, .int (nI p)), (4, .long (ymx (ymx (ymx (ymx (ymx (ymx (ymx h ((nI (yPers τ p 0)).toInt64)) ((nI (yPers τ p 1)).toInt64)) ((nI (yPers τ p 2)).toInt64)) ((yAt τ 0 p 0).toInt64)) ((yAt τ 0 p 1).toInt64)) ((yAt τ 5 p 0).toInt64)) ((yAt τ 5 p 1).toInt64))), (6, .int (nI 3))] [.int (nI p), .int (nI 12), .long (ymx (ymx (ymx (ymx (ymx (ymx (ymx h ((nI (yPers τ p 0)).toInt64)) ((nI (yPers τ p 1)).toInt64)) ((nI (yPers τ p 2)).toInt64)) ((yAt τ 0 p 0).toInt64)) ((yAt τ 0 p 1).toInt64)) ((yAt τ 5 p 0).toInt64)) ((yAt τ 5 p 1).toInt64)), .ref 50] μ2 rfl trivial ?_
  refine zq_call zt_X9_personDigest [.ref 50, .long (ymx (ymx (ymx (ymx (ymx (ymx (ymx h ((nI (yPers τ p 0)).toInt64)) ((nI (yPers τ p 1)).toInt64)) ((nI (yPers τ p 2)).toInt64)) ((yAt τ 0 p 0).toInt64)) ((yAt τ 0 p 1).toInt64)) ((yAt τ 5 p 0).toInt64)) ((yAt τ 5 p 1).toInt64)), .int (nI 12), .int (nI p)] [] (zs_hourDigest (h := ymx (ymx (ymx (ymx (ymx (ymx (ymx h ((nI (yPers τ p 0)).toInt64)) ((nI (yPers τ p 1)).toInt64)) ((nI (yPers τ p 2)).toInt64)) ((yAt τ 0 p 0).toInt64)) ((yAt τ 0 p 1).toInt64)) ((yAt τ 5 p 0).toInt64)) ((yAt τ 5 p 1).toInt64)) (x := 12) (by decide) lp i2) rfl rfl ?_
  rintro _ μ3 ⟨rfl, i3, g3⟩
  have f3 := (f2).tr g3
  refine zq_go zt_X9_personDigest 5 [] 72 [(0, .ref 50), (1, .long h), (3, .int (nI p)), (4, .long (ymx (ymx (ymx (ymx (ymx (ymx (ymx (ymx (ymx h ((nI (yPers τ p 0)).toInt64)) ((nI (yPers τ p 1)).toInt64)) ((nI (yPers τ p 2)).toInt64)) ((yAt τ 0 p 0).toInt64)) ((yAt τ 0 p 1).toInt64)) ((yAt τ 5 p 0).toInt64)) ((yAt τ 5 p 1).toInt64)) ((yAt τ 12 p 0).toInt64)) ((yAt τ 12 p 1).toInt64))), (6, .int (nI 3))] [.int (nI p), .int (nI 23), .long (ymx (ymx (ymx (ymx (ymx (ymx (ymx (ymx (ymx h ((nI (yPers τ p 0)).toInt64)) ((nI (yPers τ p 1)).toInt64)) ((nI (yPers τ p 2)).toInt64)) ((yAt τ 0 p 0).toInt64)) ((yAt τ 0 p 1).toInt64)) ((yAt τ 5 p 0).toInt64)) ((yAt τ 5 p 1).toInt64)) ((yAt τ 12 p 0).toInt64)) ((yAt τ 12 p 1).toInt64)), .ref 50] μ3 rfl trivial ?_
  refine zq_call zt_X9_personDigest [.ref 50, .long (ymx (ymx (ymx (ymx (ymx (ymx (ymx (ymx (ymx h ((nI (yPers τ p 0)).toInt64)) ((nI (yPers τ p 1)).toInt64)) ((nI (yPers τ p 2)).toInt64)) ((yAt τ 0 p 0).toInt64)) ((yAt τ 0 p 1).toInt64)) ((yAt τ 5 p 0).toInt64)) ((yAt τ 5 p 1).toInt64)) ((yAt τ 12 p 0).toInt64)) ((yAt τ 12 p 1).toInt64)), .int (nI 23), .int (nI p)] [] (zs_hourDigest (h := ymx (ymx (ymx (ymx (ymx (ymx (ymx (ymx (ymx h ((nI (yPers τ p 0)).toInt64)) ((nI (yPers τ p 1)).toInt64)) ((nI (yPers τ p 2)).toInt64)) ((yAt τ 0 p 0).toInt64)) ((yAt τ 0 p 1).toInt64)) ((yAt τ 5 p 0).toInt64)) ((yAt τ 5 p 1).toInt64)) ((yAt τ 12 p 0).toInt64)) ((yAt τ 12 p 1).toInt64)) (x := 23) (by decide) lp i3) rfl rfl ?_
  rintro _ μ4 ⟨rfl, i4, g4⟩
  have f4 := (f3).tr g4
  refine zq_go zt_X9_personDigest 7 [] 86 [(0, .ref 50), (1, .long h), (3, .int (nI p)), (4, .long (ymx (ymx (ymx (ymx (ymx (ymx (ymx (ymx (ymx (ymx (ymx h ((nI (yPers τ p 0)).toInt64)) ((nI (yPers τ p 1)).toInt64)) ((nI (yPers τ p 2)).toInt64)) ((yAt τ 0 p 0).toInt64)) ((yAt τ 0 p 1).toInt64)) ((yAt τ 5 p 0).toInt64)) ((yAt τ 5 p 1).toInt64)) ((yAt τ 12 p 0).toInt64)) ((yAt τ 12 p 1).toInt64)) ((yAt τ 23 p 0).toInt64)) ((yAt τ 23 p 1).toInt64))), (6, .int (nI 3))] [.int (nI 0), .int (nI p), .ref 50, .long (31 * (ymx (ymx (ymx (ymx (ymx (ymx (ymx (ymx (ymx (ymx (ymx h ((nI (yPers τ p 0)).toInt64)) ((nI (yPers τ p 1)).toInt64)) ((nI (yPers τ p 2)).toInt64)) ((yAt τ 0 p 0).toInt64)) ((yAt τ 0 p 1).toInt64)) ((yAt τ 5 p 0).toInt64)) ((yAt τ 5 p 1).toInt64)) ((yAt τ 12 p 0).toInt64)) ((yAt τ 12 p 1).toInt64)) ((yAt τ 23 p 0).toInt64)) ((yAt τ 23 p 1).toInt64)))] μ4 rfl trivial ?_
  rw [show ymx (ymx (ymx (ymx (ymx (ymx (ymx (ymx (ymx (ymx (ymx h ((nI (yPers τ p 0)).toInt64)) ((nI (yPers τ p 1)).toInt64)) ((nI (yPers τ p 2)).toInt64)) ((yAt τ 0 p 0).toInt64)) ((yAt τ 0 p 1).toInt64)) ((yAt τ 5 p 0).toInt64)) ((yAt τ 5 p 1).toInt64)) ((yAt τ 12 p 0).toInt64)) ((yAt τ 12 p 1).toInt64)) ((yAt τ 23 p 0).toInt64)) ((yAt τ 23 p 1).toInt64) = yStay τ h p from rfl]
  refine zq_call zt_X9_personDigest [.ref 50, .int (nI p), .int (nI 0)] [.long (31 * (yStay τ h p))] (zs_sleepOf lp (w := 0) (by decide) i4) rfl rfl ?_
  rintro _ μ5 ⟨rfl, i5, g5⟩
  have f5 := (f4).tr g5
  refine zq_go zt_X9_personDigest 9 [] 102 [(0, .ref 50), (1, .long h), (3, .int (nI p)), (4, .long ((31 * (yStay τ h p)) + ((nI (ySl (ysf τ p) 0)).toInt64))), (6, .int (nI 3))] [.int (nI 1), .int (nI p), .ref 50, .long (31 * ((31 * (yStay τ h p)) + ((nI (ySl (ysf τ p) 0)).toInt64)))] μ5 rfl trivial ?_
  rw [show (31 * (yStay τ h p)) + ((nI (ySl (ysf τ p) 0)).toInt64) = ymx (yStay τ h p) ((nI (ySl (ysf τ p) 0)).toInt64) from rfl]
  refine zq_call zt_X9_personDigest [.ref 50, .int (nI p), .int (nI 1)] [.long (31 * (ymx (yStay τ h p) ((nI (ySl (ysf τ p) 0)).toInt64)))] (zs_sleepOf lp (w := 1) (by decide) i5) rfl rfl ?_
  rintro _ μ6 ⟨rfl, i6, g6⟩
  have f6 := (f5).tr g6
  refine zq_go zt_X9_personDigest 8 [] 117 [(0, .ref 50), (1, .long h), (3, .int (nI p)), (4, .long ((31 * (ymx (yStay τ h p) ((nI (ySl (ysf τ p) 0)).toInt64))) + ((nI (ySl (ysf τ p) 1)).toInt64))), (6, .int (nI 3))] [.int (nI p), .ref 50, .long (31 * ((31 * (ymx (yStay τ h p) ((nI (ySl (ysf τ p) 0)).toInt64))) + ((nI (ySl (ysf τ p) 1)).toInt64)))] μ6 rfl trivial ?_
  rw [show (31 * (ymx (yStay τ h p) ((nI (ySl (ysf τ p) 0)).toInt64))) + ((nI (ySl (ysf τ p) 1)).toInt64) = ymx (ymx (yStay τ h p) ((nI (ySl (ysf τ p) 0)).toInt64)) ((nI (ySl (ysf τ p) 1)).toInt64) from rfl]
  refine zq_call zt_X9_personDigest [.ref 50, .int (nI p)] [.long (31 * (ymx (ymx (yStay τ h p) ((nI (ySl (ysf τ p) 0)).toInt64)) ((nI (ySl (ysf τ p) 1)).toInt64)))] (show zq_Wp zn_X9_sortsBy 0 [(0, .ref 50), (1, .int (nI p))] [] _ (zRm' (.int (nI (yWas τ S p 0))) τ S H _) from zs_sortsBy lp i6) rfl rfl ?_
  rintro _ μ7 ⟨rfl, i7, g7⟩
  have f7 := (f6).tr g7
  refine zq_go zt_X9_personDigest 8 [] 132 [(0, .ref 50), (1, .long h), (3, .int (nI p)), (4, .long ((31 * (ymx (ymx (yStay τ h p) ((nI (ySl (ysf τ p) 0)).toInt64)) ((nI (ySl (ysf τ p) 1)).toInt64))) + ((nI (yWas τ S p 0)).toInt64))), (6, .int (nI 3))] [.int (nI p), .ref 50, .long (31 * ((31 * (ymx (ymx (yStay τ h p) ((nI (ySl (ysf τ p) 0)).toInt64)) ((nI (ySl (ysf τ p) 1)).toInt64))) + ((nI (yWas τ S p 0)).toInt64)))] μ7 rfl trivial ?_
  rw [show (31 * (ymx (ymx (yStay τ h p) ((nI (ySl (ysf τ p) 0)).toInt64)) ((nI (ySl (ysf τ p) 1)).toInt64))) + ((nI (yWas τ S p 0)).toInt64) = ymx (ymx (ymx (yStay τ h p) ((nI (ySl (ysf τ p) 0)).toInt64)) ((nI (ySl (ysf τ p) 1)).toInt64)) ((nI (yWas τ S p 0)).toInt64) from rfl]
  refine zq_call zt_X9_personDigest [.ref 50, .int (nI p)] [.long (31 * (ymx (ymx (ymx (yStay τ h p) ((nI (ySl (ysf τ p) 0)).toInt64)) ((nI (ySl (ysf τ p) 1)).toInt64)) ((nI (yWas τ S p 0)).toInt64)))] (show zq_Wp zn_X9_bedsBy 0 [(0, .ref 50), (1, .int (nI p))] [] μ7 (fun r μ => r = some (.int (nI (yWas τ S p 1))) ∧ zIm τ S H μ ∧ zq_fr zSM μ7 μ ∧ (∀ u h, u < 8 → h < 24 → μ.1 71 (24 * u + h) = nI (ybh τ p u h))) from zs_bedsBy lp i7) rfl rfl ?_
  rintro _ μ8 ⟨rfl, i8, g8, _⟩
  have f8 := (f7).tr g8
  refine zq_go zt_X9_personDigest 8 [] 147 [(0, .ref 50), (1, .long h), (3, .int (nI p)), (4, .long ((31 * (ymx (ymx (ymx (yStay τ h p) ((nI (ySl (ysf τ p) 0)).toInt64)) ((nI (ySl (ysf τ p) 1)).toInt64)) ((nI (yWas τ S p 0)).toInt64))) + ((nI (yWas τ S p 1)).toInt64))), (6, .int (nI 3))] [.int (nI p), .ref 50, .long (31 * ((31 * (ymx (ymx (ymx (yStay τ h p) ((nI (ySl (ysf τ p) 0)).toInt64)) ((nI (ySl (ysf τ p) 1)).toInt64)) ((nI (yWas τ S p 0)).toInt64))) + ((nI (yWas τ S p 1)).toInt64)))] μ8 rfl trivial ?_
  rw [show (31 * (ymx (ymx (ymx (yStay τ h p) ((nI (ySl (ysf τ p) 0)).toInt64)) ((nI (ySl (ysf τ p) 1)).toInt64)) ((nI (yWas τ S p 0)).toInt64))) + ((nI (yWas τ S p 1)).toInt64) = ymx (ymx (ymx (ymx (yStay τ h p) ((nI (ySl (ysf τ p) 0)).toInt64)) ((nI (ySl (ysf τ p) 1)).toInt64)) ((nI (yWas τ S p 0)).toInt64)) ((nI (yWas τ S p 1)).toInt64) from rfl]
  refine zq_call zt_X9_personDigest [.ref 50, .int (nI p)] [.long (31 * (ymx (ymx (ymx (ymx (yStay τ h p) ((nI (ySl (ysf τ p) 0)).toInt64)) ((nI (ySl (ysf τ p) 1)).toInt64)) ((nI (yWas τ S p 0)).toInt64)) ((nI (yWas τ S p 1)).toInt64)))] (zs_askOf lp i8) rfl rfl ?_
  rintro _ μ9 ⟨rfl, i9, g9⟩
  have f9 := (f8).tr g9
  refine zq_go zt_X9_personDigest 11 [] 166 [(0, .ref 50), (1, .long h), (3, .int (nI p)), (4, .long ((31 * (ymx (ymx (ymx (ymx (yStay τ h p) ((nI (ySl (ysf τ p) 0)).toInt64)) ((nI (ySl (ysf τ p) 1)).toInt64)) ((nI (yWas τ S p 0)).toInt64)) ((nI (yWas τ S p 1)).toInt64))) + ((nI (yan2 (yaf τ S p) 24).2).toInt64))), (6, .int (nI 3))] [.int (nI 0), .int (nI 14), .int (nI p), .int (nI 5), .ref 50, .long (31 * ((31 * (ymx (ymx (ymx (ymx (yStay τ h p) ((nI (ySl (ysf τ p) 0)).toInt64)) ((nI (ySl (ysf τ p) 1)).toInt64)) ((nI (yWas τ S p 0)).toInt64)) ((nI (yWas τ S p 1)).toInt64))) + ((nI (yan2 (yaf τ S p) 24).2).toInt64)))] μ9 rfl trivial ?_
  rw [show (31 * (ymx (ymx (ymx (ymx (yStay τ h p) ((nI (ySl (ysf τ p) 0)).toInt64)) ((nI (ySl (ysf τ p) 1)).toInt64)) ((nI (yWas τ S p 0)).toInt64)) ((nI (yWas τ S p 1)).toInt64))) + ((nI (yan2 (yaf τ S p) 24).2).toInt64) = ymx (ymx (ymx (ymx (ymx (yStay τ h p) ((nI (ySl (ysf τ p) 0)).toInt64)) ((nI (ySl (ysf τ p) 1)).toInt64)) ((nI (yWas τ S p 0)).toInt64)) ((nI (yWas τ S p 1)).toInt64)) ((nI (yan2 (yaf τ S p) 24).2).toInt64) from rfl]
  refine zq_call zt_X9_personDigest [.ref 50, .int (nI 5), .int (nI p), .int (nI 14), .int (nI 0)] [.long (31 * (ymx (ymx (ymx (ymx (ymx (yStay τ h p) ((nI (ySl (ysf τ p) 0)).toInt64)) ((nI (ySl (ysf τ p) 1)).toInt64)) ((nI (yWas τ S p 0)).toInt64)) ((nI (yWas τ S p 1)).toInt64)) ((nI (yan2 (yaf τ S p) 24).2).toInt64)))] (zs_chanceOf (c := 5) (h := 14) (w := 0) (by decide) lp (by decide) (by decide) i9) rfl rfl ?_
  rintro _ μ10 ⟨rfl, i10, g10, _, _⟩
  have f10 := (f9).tr g10
  refine zq_go zt_X9_personDigest 10 [] 184 [(0, .ref 50), (1, .long h), (3, .int (nI p)), (4, .long ((31 * (ymx (ymx (ymx (ymx (ymx (yStay τ h p) ((nI (ySl (ysf τ p) 0)).toInt64)) ((nI (ySl (ysf τ p) 1)).toInt64)) ((nI (yWas τ S p 0)).toInt64)) ((nI (yWas τ S p 1)).toInt64)) ((nI (yan2 (yaf τ S p) 24).2).toInt64))) + (zL (yCh (zod τ 5 14 p) (4 * yne τ) 0)))), (6, .int (nI 3))] [.int (nI 1), .int (nI 14), .int (nI p), .int (nI 5), .ref 50, .long (31 * ((31 * (ymx (ymx (ymx (ymx (ymx (yStay τ h p) ((nI (ySl (ysf τ p) 0)).toInt64)) ((nI (ySl (ysf τ p) 1)).toInt64)) ((nI (yWas τ S p 0)).toInt64)) ((nI (yWas τ S p 1)).toInt64)) ((nI (yan2 (yaf τ S p) 24).2).toInt64))) + (zL (yCh (zod τ 5 14 p) (4 * yne τ) 0))))] μ10 rfl trivial ?_
  rw [show (31 * (ymx (ymx (ymx (ymx (ymx (yStay τ h p) ((nI (ySl (ysf τ p) 0)).toInt64)) ((nI (ySl (ysf τ p) 1)).toInt64)) ((nI (yWas τ S p 0)).toInt64)) ((nI (yWas τ S p 1)).toInt64)) ((nI (yan2 (yaf τ S p) 24).2).toInt64))) + (zL (yCh (zod τ 5 14 p) (4 * yne τ) 0)) = ymx (ymx (ymx (ymx (ymx (ymx (yStay τ h p) ((nI (ySl (ysf τ p) 0)).toInt64)) ((nI (ySl (ysf τ p) 1)).toInt64)) ((nI (yWas τ S p 0)).toInt64)) ((nI (yWas τ S p 1)).toInt64)) ((nI (yan2 (yaf τ S p) 24).2).toInt64)) (zL (yCh (zod τ 5 14 p) (4 * yne τ) 0)) from rfl]
  refine zq_call zt_X9_personDigest [.ref 50, .int (nI 5), .int (nI p), .int (nI 14), .int (nI 1)] [.long (31 * (ymx (ymx (ymx (ymx (ymx (ymx (yStay τ h p) ((nI (ySl (ysf τ p) 0)).toInt64)) ((nI (ySl (ysf τ p) 1)).toInt64)) ((nI (yWas τ S p 0)).toInt64)) ((nI (yWas τ S p 1)).toInt64)) ((nI (yan2 (yaf τ S p) 24).2).toInt64)) (zL (yCh (zod τ 5 14 p) (4 * yne τ) 0))))] (zs_chanceOf (c := 5) (h := 14) (w := 1) (by decide) lp (by decide) (by decide) i10) rfl rfl ?_
  rintro _ μ11 ⟨rfl, i11, g11, _, p9⟩
  have f11 := (f10).tr g11
  refine zq_go zt_X9_personDigest 7 [] (if ¬ (nI p) = 0 then 204 else 200) [(0, .ref 50), (1, .long h), (3, .int (nI p)), (4, .long ((31 * (ymx (ymx (ymx (ymx (ymx (ymx (yStay τ h p) ((nI (ySl (ysf τ p) 0)).toInt64)) ((nI (ySl (ysf τ p) 1)).toInt64)) ((nI (yWas τ S p 0)).toInt64)) ((nI (yWas τ S p 1)).toInt64)) ((nI (yan2 (yaf τ S p) 24).2).toInt64)) (zL (yCh (zod τ 5 14 p) (4 * yne τ) 0)))) + (zL (yCh (zod τ 5 14 p) (4 * yne τ) 1)))), (6, .int (nI 3))] [.long (31 * ((31 * (ymx (ymx (ymx (ymx (ymx (ymx (yStay τ h p) ((nI (ySl (ysf τ p) 0)).toInt64)) ((nI (ySl (ysf τ p) 1)).toInt64)) ((nI (yWas τ S p 0)).toInt64)) ((nI (yWas τ S p 1)).toInt64)) ((nI (yan2 (yaf τ S p) 24).2).toInt64)) (zL (yCh (zod τ 5 14 p) (4 * yne τ) 0)))) + (zL (yCh (zod τ 5 14 p) (4 * yne τ) 1))))] μ11 rfl trivial ?_
  rw [show (31 * (ymx (ymx (ymx (ymx (ymx (ymx (yStay τ h p) ((nI (ySl (ysf τ p) 0)).toInt64)) ((nI (ySl (ysf τ p) 1)).toInt64)) ((nI (yWas τ S p 0)).toInt64)) ((nI (yWas τ S p 1)).toInt64)) ((nI (yan2 (yaf τ S p) 24).2).toInt64)) (zL (yCh (zod τ 5 14 p) (4 * yne τ) 0)))) + (zL (yCh (zod τ 5 14 p) (4 * yne τ) 1)) = ymx (ymx (ymx (ymx (ymx (ymx (ymx (yStay τ h p) ((nI (ySl (ysf τ p) 0)).toInt64)) ((nI (ySl (ysf τ p) 1)).toInt64)) ((nI (yWas τ S p 0)).toInt64)) ((nI (yWas τ S p 1)).toInt64)) ((nI (yan2 (yaf τ S p) 24).2).toInt64)) (zL (yCh (zod τ 5 14 p) (4 * yne τ) 0))) (zL (yCh (zod τ 5 14 p) (4 * yne τ) 1)) from rfl]
  rw [show ymx (ymx (ymx (ymx (ymx (ymx (ymx (yStay τ h p) ((nI (ySl (ysf τ p) 0)).toInt64)) ((nI (ySl (ysf τ p) 1)).toInt64)) ((nI (yWas τ S p 0)).toInt64)) ((nI (yWas τ S p 1)).toInt64)) ((nI (yan2 (yaf τ S p) 24).2).toInt64)) (zL (yCh (zod τ 5 14 p) (4 * yne τ) 0))) (zL (yCh (zod τ 5 14 p) (4 * yne τ) 1)) = yGuess τ S (yStay τ h p) p from rfl]
  refine zq_ite (fun h85 => ?_) (fun h85 => ?_)
  · rw [show (0 : Int32) = nI 0 from rfl, zn_eq (by omega) (by omega)] at h85
    refine zq_go zt_X9_personDigest 3 [] 207 [(0, .ref 50), (1, .long h), (3, .int (nI p)), (4, .long (yGuess τ S (yStay τ h p) p)), (6, .int (nI 3))] [.int (nI p), .int (nI 0), .ref 50, .long (31 * (yGuess τ S (yStay τ h p) p))] μ11 rfl trivial ?_
    refine zq_call zt_X9_personDigest [.ref 50, .int (nI 0), .int (nI p)] [.long (31 * (yGuess τ S (yStay τ h p) p))] (zs_metOf2 (a := 0) (by omega) lp i11) rfl rfl ?_
    rintro _ μ99 ⟨rfl, i99, g99, p99⟩
    refine zq_go zt_X9_personDigest 2 [] 212 [(0, .ref 50), (1, .long h), (3, .int (nI p)), (4, .long (yGuess τ S (yStay τ h p) p)), (6, .int (nI 3))] [.long ((31 * (yGuess τ S (yStay τ h p) p)) + ((yMeet τ 0 p).toInt64))] μ99 rfl trivial ?_
    rw [show 31 * (yGuess τ S (yStay τ h p) p) + (yMeet τ 0 p).toInt64 = yPrs τ S h p by
      unfold yPrs
      rw [show yMt τ p = (yMeet τ 0 p).toInt64 from if_neg (by omega)]
      rfl]
    exact zq_retn zt_X9_personDigest rfl rfl (⟨rfl, i99, f11.tr g99, p99⟩)
  · rw [show (0 : Int32) = nI 0 from rfl, zn_eq (by omega) (by omega)] at h85
    refine zq_go zt_X9_personDigest 2 [] 210 [(0, .ref 50), (1, .long h), (3, .int (nI p)), (4, .long (yGuess τ S (yStay τ h p) p)), (6, .int (nI 3))] [.int (nI 0), .long (31 * (yGuess τ S (yStay τ h p) p))] μ11 rfl trivial ?_
    refine zq_go zt_X9_personDigest 2 [] 212 [(0, .ref 50), (1, .long h), (3, .int (nI p)), (4, .long (yGuess τ S (yStay τ h p) p)), (6, .int (nI 3))] [.long ((31 * (yGuess τ S (yStay τ h p) p)) + ((nI 0).toInt64))] μ11 rfl trivial ?_
    rw [show 31 * (yGuess τ S (yStay τ h p) p) + (nI 0).toInt64 = yPrs τ S h p by
      unfold yPrs
      rw [show yMt τ p = 0 from if_pos (by omega)]
      rfl]
    exact zq_retn zt_X9_personDigest rfl rfl (⟨rfl, i11, f11, p9⟩)
set_option maxRecDepth 100000 in
set_option maxHeartbeats 400000 in
theorem zs_dgm_d {Q : zq_Post} {τ : zTd} {S : zES} {H : zSH} {μ0 : zq_Me} {h : Int64} (kk : ∀ μ : zq_Me, zIm τ S H μ → zq_fr zSM μ0 μ → (zDm (ynd τ) (yo1 τ) (yo2 τ) μ ∧ zPm (ynp τ) (ysr τ) (yst τ) (ybd τ) μ) → zq_Wp zn_X9_digest 101 [(0, .ref 50), (1, .long (yD3 τ h (ynd τ)))] [] μ Q) : ∀ (j d : Nat) (μ : zq_Me), d + j = ynd τ → zIm τ S H μ → zq_fr zSM μ0 μ → (zDm (ynd τ) (yo1 τ) (yo2 τ) μ ∧ zPm (ynp τ) (ysr τ) (yst τ) (ybd τ) μ) → zq_Wp zn_X9_digest 59 [(0, .ref 50), (1, .long (yD3 τ h d)), (3, .int (nI d))] [] μ Q := by
  intro j
  induction j with
  | zero =>
    intro d μ hij hI hF hD
    obtain rfl : d = ynd τ := by omega
    have hnd := hD.1.1
    have e15 : μ.1 50 2 = nI (ynd τ) := hD.1.2.1
    refine zq_go zt_X9_digest 4 [] (if (μ.1 50 2) ≤ (nI (ynd τ)) then 101 else 67) [(0, .ref 50), (1, .long (yD3 τ h (ynd τ))), (3, .int (nI (ynd τ)))] [] μ rfl trivial ?_
    rw [e15]
    rw [if_pos (by rw [zn_le (by omega) (by omega)]; omega)]
    exact zq_drp [0, 1] _ rfl (kk μ hI hF hD)
  | succ j ih =>
    intro d μ hij hI hF hD
    have hnd := hD.1.1
    have e15 : μ.1 50 2 = nI (ynd τ) := hD.1.2.1
    refine zq_go zt_X9_digest 4 [] (if (μ.1 50 2) ≤ (nI d) then 101 else 67) [(0, .ref 50), (1, .long (yD3 τ h d)), (3, .int (nI d))] [] μ rfl trivial ?_
    rw [e15]
    rw [if_neg (by rw [zn_le (by omega) (by omega)]; omega)]
    refine zq_go zt_X9_digest 6 [] 75 [(0, .ref 50), (1, .long (yD3 τ h d)), (3, .int (nI d))] [.int (nI 0), .int (nI d), .ref 50, .long (31 * (yD3 τ h d))] μ rfl trivial ?_
    refine zq_call zt_X9_digest [.ref 50, .int (nI d), .int (nI 0)] [.long (31 * (yD3 τ h d))] (zs_doorOf hD.1 (show d < ynd τ by omega) (w := 0) (by decide)) rfl rfl ?_
    rintro _ _ ⟨rfl, rfl⟩
    refine zq_go zt_X9_digest 3 [] 81 [(0, .ref 50), (1, .long ((31 * (yD3 τ h d)) + ((nI (yDoor τ d 0)).toInt64))), (3, .int (nI d))] [] μ rfl trivial ?_
    rw [show (31 * (yD3 τ h d)) + ((nI (yDoor τ d 0)).toInt64) = ymx (yD3 τ h d) ((nI (yDoor τ d 0)).toInt64) from rfl]
    refine zq_go zt_X9_digest 6 [] 89 [(0, .ref 50), (1, .long (ymx (yD3 τ h d) ((nI (yDoor τ d 0)).toInt64))), (3, .int (nI d))] [.int (nI 1), .int (nI d), .ref 50, .long (31 * (ymx (yD3 τ h d) ((nI (yDoor τ d 0)).toInt64)))] μ rfl trivial ?_
    refine zq_call zt_X9_digest [.ref 50, .int (nI d), .int (nI 1)] [.long (31 * (ymx (yD3 τ h d) ((nI (yDoor τ d 0)).toInt64)))] (zs_doorOf hD.1 (show d < ynd τ by omega) (w := 1) (by decide)) rfl rfl ?_
    rintro _ _ ⟨rfl, rfl⟩
    refine zq_go zt_X9_digest 5 [] 59 [(0, .ref 50), (1, .long ((31 * (ymx (yD3 τ h d) ((nI (yDoor τ d 0)).toInt64))) + ((nI (yDoor τ d 1)).toInt64))), (3, .int ((nI d) + (nI 1)))] [] μ rfl trivial ?_
    rw [zn_add d 1]
    rw [show (31 * (ymx (yD3 τ h d) ((nI (yDoor τ d 0)).toInt64))) + ((nI (yDoor τ d 1)).toInt64) = ymx (ymx (yD3 τ h d) ((nI (yDoor τ d 0)).toInt64)) ((nI (yDoor τ d 1)).toInt64) from rfl]
    exact ih (d + 1) μ (by omega) hI hF hD
set_option maxRecDepth 100000 in
set_option maxHeartbeats 400000 in
theorem zs_dgm_r {Q : zq_Post} {τ : zTd} {S : zES} {H : zSH} {μ0 : zq_Me} {h : Int64} (kk : ∀ μ : zq_Me, zIm τ S H μ → zq_fr zSM μ0 μ → zPm (ynp τ) (ysr τ) (yst τ) (ybd τ) μ → zq_Wp zn_X9_digest 160 [(0, .ref 50), (1, .long (yD4 τ h 8))] [] μ Q) : ∀ (j r : Nat) (μ : zq_Me), r + j = 8 → zIm τ S H μ → zq_fr zSM μ0 μ → zPm (ynp τ) (ysr τ) (yst τ) (ybd τ) μ → zq_Wp zn_X9_digest 103 [(0, .ref 50), (1, .long (yD4 τ h r)), (3, .int (nI r))] [] μ Q := by
  intro j
  induction j with
  | zero =>
    intro r μ hij hI hF hP
    obtain rfl : r = 8 := by omega
    refine zq_go zt_X9_digest 3 [] (if (nI 8) ≤ (nI 8) then 160 else 109) [(0, .ref 50), (1, .long (yD4 τ h 8)), (3, .int (nI 8))] [] μ rfl trivial ?_
    rw [if_pos (by decide)]
    exact zq_drp [0, 1] _ rfl (kk μ hI hF hP)
  | succ j ih =>
    intro r μ hij hI hF hP
    refine zq_go zt_X9_digest 3 [] (if (nI 8) ≤ (nI r) then 160 else 109) [(0, .ref 50), (1, .long (yD4 τ h r)), (3, .int (nI r))] [] μ rfl trivial ?_
    rw [if_neg (by rw [zn_le (by omega) (by omega)]; omega)]
    refine zq_go zt_X9_digest 5 [] 116 [(0, .ref 50), (1, .long (yD4 τ h r)), (3, .int (nI r))] [.int (nI r), .ref 50, .long (31 * (yD4 τ h r))] μ rfl trivial ?_
    refine zq_call zt_X9_digest [.ref 50, .int (nI r)] [.long (31 * (yD4 τ h r))] (zs_emptyOf (show r ≤ 7 by omega) hI) rfl rfl ?_
    rintro _ μ1 ⟨rfl, i1, g1⟩
    have f1 := (hF).tr g1
    refine zq_go zt_X9_digest 3 [] 122 [(0, .ref 50), (1, .long ((31 * (yD4 τ h r)) + ((nI (zemp (ynp τ) (yRt τ 0) r)).toInt64))), (3, .int (nI r))] [] μ1 rfl trivial ?_
    rw [show (31 * (yD4 τ h r)) + ((nI (zemp (ynp τ) (yRt τ 0) r)).toInt64) = ymx (yD4 τ h r) ((nI (zemp (ynp τ) (yRt τ 0) r)).toInt64) from rfl]
    refine zq_go zt_X9_digest 7 [] 132 [(0, .ref 50), (1, .long (ymx (yD4 τ h r) ((nI (zemp (ynp τ) (yRt τ 0) r)).toInt64))), (3, .int (nI r))] [.int (nI 0), .int (nI r), .int (nI 9), .ref 50, .long (31 * (ymx (yD4 τ h r) ((nI (zemp (ynp τ) (yRt τ 0) r)).toInt64)))] μ1 rfl trivial ?_
    refine zq_call zt_X9_digest [.ref 50, .int (nI 9), .int (nI r), .int (nI 0)] [.long (31 * (ymx (yD4 τ h r) ((nI (zemp (ynp τ) (yRt τ 0) r)).toInt64)))] (zs_farOf2 (h := 9) (t := 0) (by decide) (show r ≤ 7 by omega) (by decide) i1) rfl rfl ?_
    rintro _ μ2 ⟨rfl, i2, g2, _⟩
    have f2 := (f1).tr g2
    refine zq_go zt_X9_digest 3 [] 138 [(0, .ref 50), (1, .long ((31 * (ymx (yD4 τ h r) ((nI (zemp (ynp τ) (yRt τ 0) r)).toInt64))) + ((yFar τ 9 r 0).toInt64))), (3, .int (nI r))] [] μ2 rfl trivial ?_
    rw [show (31 * (ymx (yD4 τ h r) ((nI (zemp (ynp τ) (yRt τ 0) r)).toInt64))) + ((yFar τ 9 r 0).toInt64) = ymx (ymx (yD4 τ h r) ((nI (zemp (ynp τ) (yRt τ 0) r)).toInt64)) ((yFar τ 9 r 0).toInt64) from rfl]
    refine zq_go zt_X9_digest 7 [] 148 [(0, .ref 50), (1, .long (ymx (ymx (yD4 τ h r) ((nI (zemp (ynp τ) (yRt τ 0) r)).toInt64)) ((yFar τ 9 r 0).toInt64))), (3, .int (nI r))] [.int (nI 5), .int (nI r), .int (nI 23), .ref 50, .long (31 * (ymx (ymx (yD4 τ h r) ((nI (zemp (ynp τ) (yRt τ 0) r)).toInt64)) ((yFar τ 9 r 0).toInt64)))] μ2 rfl trivial ?_
    refine zq_call zt_X9_digest [.ref 50, .int (nI 23), .int (nI r), .int (nI 5)] [.long (31 * (ymx (ymx (yD4 τ h r) ((nI (zemp (ynp τ) (yRt τ 0) r)).toInt64)) ((yFar τ 9 r 0).toInt64)))] (zs_farOf2 (h := 23) (t := 5) (by decide) (show r ≤ 7 by omega) (by decide) i2) rfl rfl ?_
    rintro _ μ3 ⟨rfl, i3, g3, p9⟩
    have f3 := (f2).tr g3
    refine zq_go zt_X9_digest 5 [] 103 [(0, .ref 50), (1, .long ((31 * (ymx (ymx (yD4 τ h r) ((nI (zemp (ynp τ) (yRt τ 0) r)).toInt64)) ((yFar τ 9 r 0).toInt64))) + ((yFar τ 23 r 5).toInt64))), (3, .int ((nI r) + (nI 1)))] [] μ3 rfl trivial ?_
    rw [zn_add r 1]
    rw [show (31 * (ymx (ymx (yD4 τ h r) ((nI (zemp (ynp τ) (yRt τ 0) r)).toInt64)) ((yFar τ 9 r 0).toInt64))) + ((yFar τ 23 r 5).toInt64) = ymx (ymx (ymx (yD4 τ h r) ((nI (zemp (ynp τ) (yRt τ 0) r)).toInt64)) ((yFar τ 9 r 0).toInt64)) ((yFar τ 23 r 5).toInt64) from rfl]
    exact ih (r + 1) μ3 (by omega) i3 f3 p9
set_option maxRecDepth 100000 in
set_option maxHeartbeats 400000 in
theorem zs_dgm_p {Q : zq_Post} {τ : zTd} {S : zES} {H : zSH} {μ0 : zq_Me} {h : Int64} (kk : ∀ μ : zq_Me, zIm τ S H μ → zq_fr zSM μ0 μ → zPm (ynp τ) (ysr τ) (yst τ) (ybd τ) μ → zq_Wp zn_X9_digest 183 [(0, .ref 50), (1, .long (yD5 τ S h (ynp τ)))] [] μ Q) : ∀ (j p : Nat) (μ : zq_Me), p + j = ynp τ → zIm τ S H μ → zq_fr zSM μ0 μ → zPm (ynp τ) (ysr τ) (yst τ) (ybd τ) μ → zq_Wp zn_X9_digest 162 [(0, .ref 50), (1, .long (yD5 τ S h p)), (3, .int (nI p))] [] μ Q := by
  intro j
  induction j with
  | zero =>
    intro p μ hij hI hF hP
    obtain rfl : p = ynp τ := by omega
    have hnp := hP.1
    have e65 : μ.1 50 5 = nI (ynp τ) := hP.2.1
    refine zq_go zt_X9_digest 4 [] (if (μ.1 50 5) ≤ (nI (ynp τ)) then 183 else 170) [(0, .ref 50), (1, .long (yD5 τ S h (ynp τ))), (3, .int (nI (ynp τ)))] [] μ rfl trivial ?_
    rw [e65]
    rw [if_pos (by rw [zn_le (by omega) (by omega)]; omega)]
    exact zq_drp [0, 1] _ rfl (kk μ hI hF hP)
  | succ j ih =>
    intro p μ hij hI hF hP
    have hnp := hP.1
    have e65 : μ.1 50 5 = nI (ynp τ) := hP.2.1
    refine zq_go zt_X9_digest 4 [] (if (μ.1 50 5) ≤ (nI p) then 183 else 170) [(0, .ref 50), (1, .long (yD5 τ S h p)), (3, .int (nI p))] [] μ rfl trivial ?_
    rw [e65]
    rw [if_neg (by rw [zn_le (by omega) (by omega)]; omega)]
    refine zq_go zt_X9_digest 3 [] 173 [(0, .ref 50), (1, .long (yD5 τ S h p)), (3, .int (nI p))] [.int (nI p), .long (yD5 τ S h p), .ref 50] μ rfl trivial ?_
    refine zq_call zt_X9_digest [.ref 50, .long (yD5 τ S h p), .int (nI p)] [] (zs_personDigest (h := yD5 τ S h p) (show p < ynp τ by omega) hP hI) rfl rfl ?_
    rintro _ μ1 ⟨rfl, i1, g1, p9⟩
    have f1 := (hF).tr g1
    refine zq_go zt_X9_digest 3 [] 162 [(0, .ref 50), (1, .long (yPrs τ S (yD5 τ S h p) p)), (3, .int ((nI p) + (nI 1)))] [] μ1 rfl trivial ?_
    rw [zn_add p 1]
    exact ih (p + 1) μ1 (by omega) i1 f1 p9
set_option maxRecDepth 100000 in
set_option maxHeartbeats 400000 in
theorem zs_digestm {τ : zTd} {S : zES} {H : zSH} {μ0 : zq_Me} (hM : zIm τ S H μ0) : zq_Wp zn_X9_digest 0 [(0, .ref 50)] [] μ0 (zRm' (.long (yDg τ S H)) τ S H μ0) := by
  refine zq_go zt_X9_digest 4 [] 6 [(0, .ref 50), (1, .long 17), (3, .int (nI 0))] [] μ0 rfl trivial ?_
  refine zq_go zt_X9_digest 3 [] (if (nI 8) ≤ (nI 0) then 31 else 12) [(0, .ref 50), (1, .long 17), (3, .int (nI 0))] [] μ0 rfl trivial ?_
  rw [if_neg (by decide)]
  refine zq_go zt_X9_digest 5 [] 19 [(0, .ref 50), (1, .long 17), (3, .int (nI 0))] [.int (nI 0), .ref 50, .long (31 * 17)] μ0 rfl trivial ?_
  refine zq_call zt_X9_digest [.ref 50, .int (nI 0)] [.long (31 * 17)] (zs_countm (n := 0) (by decide) hM) rfl rfl ?_
  rintro _ μ1 ⟨rfl, i1, g1⟩
  have f1 := g1
  refine zq_go zt_X9_digest 5 [] 6 [(0, .ref 50), (1, .long ((31 * 17) + ((yCnt τ S H 0).toInt64))), (3, .int ((nI 0) + (nI 1)))] [] μ1 rfl trivial ?_
  rw [zn_add 0 1]
  rw [show (31 * 17) + ((yCnt τ S H 0).toInt64) = ymx 17 ((yCnt τ S H 0).toInt64) from rfl]
  rw [show nI (0 + 1) = nI 1 from rfl]
  refine zq_go zt_X9_digest 3 [] (if (nI 8) ≤ (nI 1) then 31 else 12) [(0, .ref 50), (1, .long (ymx 17 ((yCnt τ S H 0).toInt64))), (3, .int (nI 1))] [] μ1 rfl trivial ?_
  rw [if_neg (by decide)]
  refine zq_go zt_X9_digest 5 [] 19 [(0, .ref 50), (1, .long (ymx 17 ((yCnt τ S H 0).toInt64))), (3, .int (nI 1))] [.int (nI 1), .ref 50, .long (31 * (ymx 17 ((yCnt τ S H 0).toInt64)))] μ1 rfl trivial ?_
  refine zq_call zt_X9_digest [.ref 50, .int (nI 1)] [.long (31 * (ymx 17 ((yCnt τ S H 0).toInt64)))] (zs_countm (n := 1) (by decide) i1) rfl rfl ?_
  rintro _ μ2 ⟨rfl, i2, g2⟩
  have f2 := (f1).tr g2
  refine zq_go zt_X9_digest 5 [] 6 [(0, .ref 50), (1, .long ((31 * (ymx 17 ((yCnt τ S H 0).toInt64))) + ((yCnt τ S H 1).toInt64))), (3, .int ((nI 1) + (nI 1)))] [] μ2 rfl trivial ?_
  rw [zn_add 1 1]
  rw [show (31 * (ymx 17 ((yCnt τ S H 0).toInt64))) + ((yCnt τ S H 1).toInt64) = ymx (ymx 17 ((yCnt τ S H 0).toInt64)) ((yCnt τ S H 1).toInt64) from rfl]
  rw [show nI (1 + 1) = nI 2 from rfl]
  refine zq_go zt_X9_digest 3 [] (if (nI 8) ≤ (nI 2) then 31 else 12) [(0, .ref 50), (1, .long (ymx (ymx 17 ((yCnt τ S H 0).toInt64)) ((yCnt τ S H 1).toInt64))), (3, .int (nI 2))] [] μ2 rfl trivial ?_
  rw [if_neg (by decide)]
  refine zq_go zt_X9_digest 5 [] 19 [(0, .ref 50), (1, .long (ymx (ymx 17 ((yCnt τ S H 0).toInt64)) ((yCnt τ S H 1).toInt64))), (3, .int (nI 2))] [.int (nI 2), .ref 50, .long (31 * (ymx (ymx 17 ((yCnt τ S H 0).toInt64)) ((yCnt τ S H 1).toInt64)))] μ2 rfl trivial ?_
  refine zq_call zt_X9_digest [.ref 50, .int (nI 2)] [.long (31 * (ymx (ymx 17 ((yCnt τ S H 0).toInt64)) ((yCnt τ S H 1).toInt64)))] (zs_countm (n := 2) (by decide) i2) rfl rfl ?_
  rintro _ μ3 ⟨rfl, i3, g3⟩
  have f3 := (f2).tr g3
  refine zq_go zt_X9_digest 5 [] 6 [(0, .ref 50), (1, .long ((31 * (ymx (ymx 17 ((yCnt τ S H 0).toInt64)) ((yCnt τ S H 1).toInt64))) + ((yCnt τ S H 2).toInt64))), (3, .int ((nI 2) + (nI 1)))] [] μ3 rfl trivial ?_
  rw [zn_add 2 1]
  rw [show (31 * (ymx (ymx 17 ((yCnt τ S H 0).toInt64)) ((yCnt τ S H 1).toInt64))) + ((yCnt τ S H 2).toInt64) = ymx (ymx (ymx 17 ((yCnt τ S H 0).toInt64)) ((yCnt τ S H 1).toInt64)) ((yCnt τ S H 2).toInt64) from rfl]
  rw [show nI (2 + 1) = nI 3 from rfl]
  refine zq_go zt_X9_digest 3 [] (if (nI 8) ≤ (nI 3) then 31 else 12) [(0, .ref 50), (1, .long (ymx (ymx (ymx 17 ((yCnt τ S H 0).toInt64)) ((yCnt τ S H 1).toInt64)) ((yCnt τ S H 2).toInt64))), (3, .int (nI 3))] [] μ3 rfl trivial ?_
  rw [if_neg (by decide)]
  refine zq_go zt_X9_digest 5 [] 19 [(0, .ref 50), (1, .long (ymx (ymx (ymx 17 ((yCnt τ S H 0).toInt64)) ((yCnt τ S H 1).toInt64)) ((yCnt τ S H 2).toInt64))), (3, .int (nI 3))] [.int (nI 3), .ref 50, .long (31 * (ymx (ymx (ymx 17 ((yCnt τ S H 0).toInt64)) ((yCnt τ S H 1).toInt64)) ((yCnt τ S H 2).toInt64)))] μ3 rfl trivial ?_
  refine zq_call zt_X9_digest [.ref 50, .int (nI 3)] [.long (31 * (ymx (ymx (ymx 17 ((yCnt τ S H 0).toInt64)) ((yCnt τ S H 1).toInt64)) ((yCnt τ S H 2).toInt64)))] (zs_countm (n := 3) (by decide) i3) rfl rfl ?_
  rintro _ μ4 ⟨rfl, i4, g4⟩
  have f4 := (f3).tr g4
  refine zq_go zt_X9_digest 5 [] 6 [(0, .ref 50), (1, .long ((31 * (ymx (ymx (ymx 17 ((yCnt τ S H 0).toInt64)) ((yCnt τ S H 1).toInt64)) ((yCnt τ S H 2).toInt64))) + ((yCnt τ S H 3).toInt64))), (3, .int ((nI 3) + (nI 1)))] [] μ4 rfl trivial ?_
  rw [zn_add 3 1]
  rw [show (31 * (ymx (ymx (ymx 17 ((yCnt τ S H 0).toInt64)) ((yCnt τ S H 1).toInt64)) ((yCnt τ S H 2).toInt64))) + ((yCnt τ S H 3).toInt64) = ymx (ymx (ymx (ymx 17 ((yCnt τ S H 0).toInt64)) ((yCnt τ S H 1).toInt64)) ((yCnt τ S H 2).toInt64)) ((yCnt τ S H 3).toInt64) from rfl]
  rw [show nI (3 + 1) = nI 4 from rfl]
  refine zq_go zt_X9_digest 3 [] (if (nI 8) ≤ (nI 4) then 31 else 12) [(0, .ref 50), (1, .long (ymx (ymx (ymx (ymx 17 ((yCnt τ S H 0).toInt64)) ((yCnt τ S H 1).toInt64)) ((yCnt τ S H 2).toInt64)) ((yCnt τ S H 3).toInt64))), (3, .int (nI 4))] [] μ4 rfl trivial ?_
  rw [if_neg (by decide)]
  refine zq_go zt_X9_digest 5 [] 19 [(0, .ref 50), (1, .long (ymx (ymx (ymx (ymx 17 ((yCnt τ S H 0).toInt64)) ((yCnt τ S H 1).toInt64)) ((yCnt τ S H 2).toInt64)) ((yCnt τ S H 3).toInt64))), (3, .int (nI 4))] [.int (nI 4), .ref 50, .long (31 * (ymx (ymx (ymx (ymx 17 ((yCnt τ S H 0).toInt64)) ((yCnt τ S H 1).toInt64)) ((yCnt τ S H 2).toInt64)) ((yCnt τ S H 3).toInt64)))] μ4 rfl trivial ?_
  refine zq_call zt_X9_digest [.ref 50, .int (nI 4)] [.long (31 * (ymx (ymx (ymx (ymx 17 ((yCnt τ S H 0).toInt64)) ((yCnt τ S H 1).toInt64)) ((yCnt τ S H 2).toInt64)) ((yCnt τ S H 3).toInt64)))] (zs_countm (n := 4) (by decide) i4) rfl rfl ?_
  rintro _ μ5 ⟨rfl, i5, g5⟩
  have f5 := (f4).tr g5
  refine zq_go zt_X9_digest 5 [] 6 [(0, .ref 50), (1, .long ((31 * (ymx (ymx (ymx (ymx 17 ((yCnt τ S H 0).toInt64)) ((yCnt τ S H 1).toInt64)) ((yCnt τ S H 2).toInt64)) ((yCnt τ S H 3).toInt64))) + ((yCnt τ S H 4).toInt64))), (3, .int ((nI 4) + (nI 1)))] [] μ5 rfl trivial ?_
  rw [zn_add 4 1]
  rw [show (31 * (ymx (ymx (ymx (ymx 17 ((yCnt τ S H 0).toInt64)) ((yCnt τ S H 1).toInt64)) ((yCnt τ S H 2).toInt64)) ((yCnt τ S H 3).toInt64))) + ((yCnt τ S H 4).toInt64) = ymx (ymx (ymx (ymx (ymx 17 ((yCnt τ S H 0).toInt64)) ((yCnt τ S H 1).toInt64)) ((yCnt τ S H 2).toInt64)) ((yCnt τ S H 3).toInt64)) ((yCnt τ S H 4).toInt64) from rfl]
  rw [show nI (4 + 1) = nI 5 from rfl]
  refine zq_go zt_X9_digest 3 [] (if (nI 8) ≤ (nI 5) then 31 else 12) [(0, .ref 50), (1, .long (ymx (ymx (ymx (ymx (ymx 17 ((yCnt τ S H 0).toInt64)) ((yCnt τ S H 1).toInt64)) ((yCnt τ S H 2).toInt64)) ((yCnt τ S H 3).toInt64)) ((yCnt τ S H 4).toInt64))), (3, .int (nI 5))] [] μ5 rfl trivial ?_
  rw [if_neg (by decide)]
  refine zq_go zt_X9_digest 5 [] 19 [(0, .ref 50), (1, .long (ymx (ymx (ymx (ymx (ymx 17 ((yCnt τ S H 0).toInt64)) ((yCnt τ S H 1).toInt64)) ((yCnt τ S H 2).toInt64)) ((yCnt τ S H 3).toInt64)) ((yCnt τ S H 4).toInt64))), (3, .int (nI 5))] [.int (nI 5), .ref 50, .long (31 * (ymx (ymx (ymx (ymx (ymx 17 ((yCnt τ S H 0).toInt64)) ((yCnt τ S H 1).toInt64)) ((yCnt τ S H 2).toInt64)) ((yCnt τ S H 3).toInt64)) ((yCnt τ S H 4).toInt64)))] μ5 rfl trivial ?_
  refine zq_call zt_X9_digest [.ref 50, .int (nI 5)] [.long (31 * (ymx (ymx (ymx (ymx (ymx 17 ((yCnt τ S H 0).toInt64)) ((yCnt τ S H 1).toInt64)) ((yCnt τ S H 2).toInt64)) ((yCnt τ S H 3).toInt64)) ((yCnt τ S H 4).toInt64)))] (zs_countm (n := 5) (by decide) i5) rfl rfl ?_
  rintro _ μ6 ⟨rfl, i6, g6⟩
  have f6 := (f5).tr g6
  refine zq_go zt_X9_digest 5 [] 6 [(0, .ref 50), (1, .long ((31 * (ymx (ymx (ymx (ymx (ymx 17 ((yCnt τ S H 0).toInt64)) ((yCnt τ S H 1).toInt64)) ((yCnt τ S H 2).toInt64)) ((yCnt τ S H 3).toInt64)) ((yCnt τ S H 4).toInt64))) + ((yCnt τ S H 5).toInt64))), (3, .int ((nI 5) + (nI 1)))] [] μ6 rfl trivial ?_
  rw [zn_add 5 1]
  rw [show (31 * (ymx (ymx (ymx (ymx (ymx 17 ((yCnt τ S H 0).toInt64)) ((yCnt τ S H 1).toInt64)) ((yCnt τ S H 2).toInt64)) ((yCnt τ S H 3).toInt64)) ((yCnt τ S H 4).toInt64))) + ((yCnt τ S H 5).toInt64) = ymx (ymx (ymx (ymx (ymx (ymx 17 ((yCnt τ S H 0).toInt64)) ((yCnt τ S H 1).toInt64)) ((yCnt τ S H 2).toInt64)) ((yCnt τ S H 3).toInt64)) ((yCnt τ S H 4).toInt64)) ((yCnt τ S H 5).toInt64) from rfl]
  rw [show nI (5 + 1) = nI 6 from rfl]
  refine zq_go zt_X9_digest 3 [] (if (nI 8) ≤ (nI 6) then 31 else 12) [(0, .ref 50), (1, .long (ymx (ymx (ymx (ymx (ymx (ymx 17 ((yCnt τ S H 0).toInt64)) ((yCnt τ S H 1).toInt64)) ((yCnt τ S H 2).toInt64)) ((yCnt τ S H 3).toInt64)) ((yCnt τ S H 4).toInt64)) ((yCnt τ S H 5).toInt64))), (3, .int (nI 6))] [] μ6 rfl trivial ?_
  rw [if_neg (by decide)]
  refine zq_go zt_X9_digest 5 [] 19 [(0, .ref 50), (1, .long (ymx (ymx (ymx (ymx (ymx (ymx 17 ((yCnt τ S H 0).toInt64)) ((yCnt τ S H 1).toInt64)) ((yCnt τ S H 2).toInt64)) ((yCnt τ S H 3).toInt64)) ((yCnt τ S H 4).toInt64)) ((yCnt τ S H 5).toInt64))), (3, .int (nI 6))] [.int (nI 6), .ref 50, .long (31 * (ymx (ymx (ymx (ymx (ymx (ymx 17 ((yCnt τ S H 0).toInt64)) ((yCnt τ S H 1).toInt64)) ((yCnt τ S H 2).toInt64)) ((yCnt τ S H 3).toInt64)) ((yCnt τ S H 4).toInt64)) ((yCnt τ S H 5).toInt64)))] μ6 rfl trivial ?_
  refine zq_call zt_X9_digest [.ref 50, .int (nI 6)] [.long (31 * (ymx (ymx (ymx (ymx (ymx (ymx 17 ((yCnt τ S H 0).toInt64)) ((yCnt τ S H 1).toInt64)) ((yCnt τ S H 2).toInt64)) ((yCnt τ S H 3).toInt64)) ((yCnt τ S H 4).toInt64)) ((yCnt τ S H 5).toInt64)))] (zs_countm (n := 6) (by decide) i6) rfl rfl ?_
  rintro _ μ7 ⟨rfl, i7, g7⟩
  have f7 := (f6).tr g7
  refine zq_go zt_X9_digest 5 [] 6 [(0, .ref 50), (1, .long ((31 * (ymx (ymx (ymx (ymx (ymx (ymx 17 ((yCnt τ S H 0).toInt64)) ((yCnt τ S H 1).toInt64)) ((yCnt τ S H 2).toInt64)) ((yCnt τ S H 3).toInt64)) ((yCnt τ S H 4).toInt64)) ((yCnt τ S H 5).toInt64))) + ((yCnt τ S H 6).toInt64))), (3, .int ((nI 6) + (nI 1)))] [] μ7 rfl trivial ?_
  rw [zn_add 6 1]
  rw [show (31 * (ymx (ymx (ymx (ymx (ymx (ymx 17 ((yCnt τ S H 0).toInt64)) ((yCnt τ S H 1).toInt64)) ((yCnt τ S H 2).toInt64)) ((yCnt τ S H 3).toInt64)) ((yCnt τ S H 4).toInt64)) ((yCnt τ S H 5).toInt64))) + ((yCnt τ S H 6).toInt64) = ymx (ymx (ymx (ymx (ymx (ymx (ymx 17 ((yCnt τ S H 0).toInt64)) ((yCnt τ S H 1).toInt64)) ((yCnt τ S H 2).toInt64)) ((yCnt τ S H 3).toInt64)) ((yCnt τ S H 4).toInt64)) ((yCnt τ S H 5).toInt64)) ((yCnt τ S H 6).toInt64) from rfl]
  rw [show nI (6 + 1) = nI 7 from rfl]
  refine zq_go zt_X9_digest 3 [] (if (nI 8) ≤ (nI 7) then 31 else 12) [(0, .ref 50), (1, .long (ymx (ymx (ymx (ymx (ymx (ymx (ymx 17 ((yCnt τ S H 0).toInt64)) ((yCnt τ S H 1).toInt64)) ((yCnt τ S H 2).toInt64)) ((yCnt τ S H 3).toInt64)) ((yCnt τ S H 4).toInt64)) ((yCnt τ S H 5).toInt64)) ((yCnt τ S H 6).toInt64))), (3, .int (nI 7))] [] μ7 rfl trivial ?_
  rw [if_neg (by decide)]
  refine zq_go zt_X9_digest 5 [] 19 [(0, .ref 50), (1, .long (ymx (ymx (ymx (ymx (ymx (ymx (ymx 17 ((yCnt τ S H 0).toInt64)) ((yCnt τ S H 1).toInt64)) ((yCnt τ S H 2).toInt64)) ((yCnt τ S H 3).toInt64)) ((yCnt τ S H 4).toInt64)) ((yCnt τ S H 5).toInt64)) ((yCnt τ S H 6).toInt64))), (3, .int (nI 7))] [.int (nI 7), .ref 50, .long (31 * (ymx (ymx (ymx (ymx (ymx (ymx (ymx 17 ((yCnt τ S H 0).toInt64)) ((yCnt τ S H 1).toInt64)) ((yCnt τ S H 2).toInt64)) ((yCnt τ S H 3).toInt64)) ((yCnt τ S H 4).toInt64)) ((yCnt τ S H 5).toInt64)) ((yCnt τ S H 6).toInt64)))] μ7 rfl trivial ?_
  refine zq_call zt_X9_digest [.ref 50, .int (nI 7)] [.long (31 * (ymx (ymx (ymx (ymx (ymx (ymx (ymx 17 ((yCnt τ S H 0).toInt64)) ((yCnt τ S H 1).toInt64)) ((yCnt τ S H 2).toInt64)) ((yCnt τ S H 3).toInt64)) ((yCnt τ S H 4).toInt64)) ((yCnt τ S H 5).toInt64)) ((yCnt τ S H 6).toInt64)))] (zs_countm (n := 7) (by decide) i7) rfl rfl ?_
  rintro _ μ8 ⟨rfl, i8, g8⟩
  have f8 := (f7).tr g8
  refine zq_go zt_X9_digest 5 [] 6 [(0, .ref 50), (1, .long ((31 * (ymx (ymx (ymx (ymx (ymx (ymx (ymx 17 ((yCnt τ S H 0).toInt64)) ((yCnt τ S H 1).toInt64)) ((yCnt τ S H 2).toInt64)) ((yCnt τ S H 3).toInt64)) ((yCnt τ S H 4).toInt64)) ((yCnt τ S H 5).toInt64)) ((yCnt τ S H 6).toInt64))) + ((yCnt τ S H 7).toInt64))), (3, .int ((nI 7) + (nI 1)))] [] μ8 rfl trivial ?_
  rw [zn_add 7 1]
  rw [show (31 * (ymx (ymx (ymx (ymx (ymx (ymx (ymx 17 ((yCnt τ S H 0).toInt64)) ((yCnt τ S H 1).toInt64)) ((yCnt τ S H 2).toInt64)) ((yCnt τ S H 3).toInt64)) ((yCnt τ S H 4).toInt64)) ((yCnt τ S H 5).toInt64)) ((yCnt τ S H 6).toInt64))) + ((yCnt τ S H 7).toInt64) = ymx (ymx (ymx (ymx (ymx (ymx (ymx (ymx 17 ((yCnt τ S H 0).toInt64)) ((yCnt τ S H 1).toInt64)) ((yCnt τ S H 2).toInt64)) ((yCnt τ S H 3).toInt64)) ((yCnt τ S H 4).toInt64)) ((yCnt τ S H 5).toInt64)) ((yCnt τ S H 6).toInt64)) ((yCnt τ S H 7).toInt64) from rfl]
  rw [show nI (7 + 1) = nI 8 from rfl]
  refine zq_go zt_X9_digest 3 [] (if (nI 8) ≤ (nI 8) then 31 else 12) [(0, .ref 50), (1, .long (ymx (ymx (ymx (ymx (ymx (ymx (ymx (ymx 17 ((yCnt τ S H 0).toInt64)) ((yCnt τ S H 1).toInt64)) ((yCnt τ S H 2).toInt64)) ((yCnt τ S H 3).toInt64)) ((yCnt τ S H 4).toInt64)) ((yCnt τ S H 5).toInt64)) ((yCnt τ S H 6).toInt64)) ((yCnt τ S H 7).toInt64))), (3, .int (nI 8))] [] μ8 rfl trivial ?_
  rw [if_pos (by decide)]
  rw [show ymx (ymx (ymx (ymx (ymx (ymx (ymx (ymx 17 ((yCnt τ S H 0).toInt64)) ((yCnt τ S H 1).toInt64)) ((yCnt τ S H 2).toInt64)) ((yCnt τ S H 3).toInt64)) ((yCnt τ S H 4).toInt64)) ((yCnt τ S H 5).toInt64)) ((yCnt τ S H 6).toInt64)) ((yCnt τ S H 7).toInt64) = yD1 τ S H from rfl]
  refine zq_go zt_X9_digest 5 [] 38 [(0, .ref 50), (1, .long (yD1 τ S H)), (3, .int (nI 8))] [.int (nI 0), .ref 50, .long (31 * (yD1 τ S H))] μ8 rfl trivial ?_
  refine zq_call zt_X9_digest [.ref 50, .int (nI 0)] [.long (31 * (yD1 τ S H))] (zs_faultOf (nI 0) i8.1.1 i8.1.2) rfl rfl ?_
  rintro _ μ9 ⟨rfl, hr9⟩
  obtain ⟨i9, g9, d9, p9⟩ := hr9.m i8
  have f9 := (f8).tr g9
  refine zq_go zt_X9_digest 3 [] 44 [(0, .ref 50), (1, .long ((31 * (yD1 τ S H)) + ((zdn (ztf (zok1 (yb0 τ)) 3 (yn0 τ))).toInt64))), (3, .int (nI 8))] [] μ9 rfl trivial ?_
  rw [show (31 * (yD1 τ S H)) + ((zdn (ztf (zok1 (yb0 τ)) 3 (yn0 τ))).toInt64) = ymx (yD1 τ S H) ((zdn (ztf (zok1 (yb0 τ)) 3 (yn0 τ))).toInt64) from rfl]
  refine zq_go zt_X9_digest 5 [] 51 [(0, .ref 50), (1, .long (ymx (yD1 τ S H) ((zdn (ztf (zok1 (yb0 τ)) 3 (yn0 τ))).toInt64))), (3, .int (nI 8))] [.int (nI 1), .ref 50, .long (31 * (ymx (yD1 τ S H) ((zdn (ztf (zok1 (yb0 τ)) 3 (yn0 τ))).toInt64)))] μ9 rfl trivial ?_
  refine zq_call zt_X9_digest [.ref 50, .int (nI 1)] [.long (31 * (ymx (yD1 τ S H) ((zdn (ztf (zok1 (yb0 τ)) 3 (yn0 τ))).toInt64)))] (zs_faultOf (nI 1) i9.1.1 i9.1.2) rfl rfl ?_
  rintro _ μ10 ⟨rfl, hr10⟩
  obtain ⟨i10, g10, d10, p10⟩ := hr10.m i9
  have f10 := (f9).tr g10
  refine zq_go zt_X9_digest 5 [] 59 [(0, .ref 50), (1, .long ((31 * (ymx (yD1 τ S H) ((zdn (ztf (zok1 (yb0 τ)) 3 (yn0 τ))).toInt64))) + ((zdn (ztf (zok6 (yb1 τ)) 4 (yn1 τ))).toInt64))), (3, .int (nI 0))] [] μ10 rfl trivial ?_
  rw [show (31 * (ymx (yD1 τ S H) ((zdn (ztf (zok1 (yb0 τ)) 3 (yn0 τ))).toInt64))) + ((zdn (ztf (zok6 (yb1 τ)) 4 (yn1 τ))).toInt64) = ymx (ymx (yD1 τ S H) ((zdn (ztf (zok1 (yb0 τ)) 3 (yn0 τ))).toInt64)) ((zdn (ztf (zok6 (yb1 τ)) 4 (yn1 τ))).toInt64) from rfl]
  rw [show ymx (ymx (yD1 τ S H) ((zdn (ztf (zok1 (yb0 τ)) 3 (yn0 τ))).toInt64)) ((zdn (ztf (zok6 (yb1 τ)) 4 (yn1 τ))).toInt64) = yD2 τ (yD1 τ S H) from rfl]
  refine zs_dgm_d (τ := τ) (S := S) (H := H) (μ0 := μ0) (h := yD2 τ (yD1 τ S H)) (fun μ11 i11 f11 j1 => ?_) (ynd τ) 0 μ10 (by omega) i10 f10 ⟨d10, p10⟩
  refine zq_go zt_X9_digest 2 [] 103 [(0, .ref 50), (1, .long (yD3 τ (yD2 τ (yD1 τ S H)) (ynd τ))), (3, .int (nI 0))] [] μ11 rfl trivial ?_
  refine zs_dgm_r (τ := τ) (S := S) (H := H) (μ0 := μ0) (h := yD3 τ (yD2 τ (yD1 τ S H)) (ynd τ)) (fun μ12 i12 f12 j2 => ?_) (8) 0 μ11 (by omega) i11 f11 j1.2
  refine zq_go zt_X9_digest 2 [] 162 [(0, .ref 50), (1, .long (yD4 τ (yD3 τ (yD2 τ (yD1 τ S H)) (ynd τ)) 8)), (3, .int (nI 0))] [] μ12 rfl trivial ?_
  refine zs_dgm_p (τ := τ) (S := S) (H := H) (μ0 := μ0) (h := yD4 τ (yD3 τ (yD2 τ (yD1 τ S H)) (ynd τ)) 8) (fun μ13 i13 f13 j3 => ?_) (ynp τ) 0 μ12 (by omega) i12 f12 j2
  obtain ⟨h5, eh5⟩ : ∃ k9 : Int64, k9 = yD5 τ S (yD4 τ (yD3 τ (yD2 τ (yD1 τ S H)) (ynd τ)) 8) (ynp τ) := ⟨_, rfl⟩
  rw [show yDg τ S H = yD8 τ S (yD7 τ (yD6 τ h5)) by rw [eh5]; rfl, ← eh5]
  refine zq_go zt_X9_digest 2 [] 185 [(0, .ref 50), (1, .long h5), (3, .int (nI 0))] [] μ13 rfl trivial ?_
  refine zq_go zt_X9_digest 3 [] (if (nI 3) ≤ (nI 0) then 209 else 190) [(0, .ref 50), (1, .long h5), (3, .int (nI 0))] [] μ13 rfl trivial ?_
  rw [if_neg (by decide)]
  refine zq_go zt_X9_digest 5 [] 197 [(0, .ref 50), (1, .long h5), (3, .int (nI 0))] [.int (nI 0), .ref 50, .long (31 * h5)] μ13 rfl trivial ?_
  refine zq_call zt_X9_digest [.ref 50, .int (nI 0)] [.long (31 * h5)] (zs_foundOf (nI 0) i13) rfl rfl ?_
  rintro _ μ14 ⟨rfl, i14, g14⟩
  have f14 := (f13).tr g14
  refine zq_go zt_X9_digest 5 [] 185 [(0, .ref 50), (1, .long ((31 * h5) + ((zfv (ysr τ) (ynp τ) (yRt τ 0) (nI 0)).toInt64))), (3, .int ((nI 0) + (nI 1)))] [] μ14 rfl trivial ?_
  rw [zn_add 0 1]
  rw [show (31 * h5) + ((zfv (ysr τ) (ynp τ) (yRt τ 0) (nI 0)).toInt64) = ymx h5 ((zfv (ysr τ) (ynp τ) (yRt τ 0) (nI 0)).toInt64) from rfl]
  rw [show nI (0 + 1) = nI 1 from rfl]
  refine zq_go zt_X9_digest 3 [] (if (nI 3) ≤ (nI 1) then 209 else 190) [(0, .ref 50), (1, .long (ymx h5 ((zfv (ysr τ) (ynp τ) (yRt τ 0) (nI 0)).toInt64))), (3, .int (nI 1))] [] μ14 rfl trivial ?_
  rw [if_neg (by decide)]
  refine zq_go zt_X9_digest 5 [] 197 [(0, .ref 50), (1, .long (ymx h5 ((zfv (ysr τ) (ynp τ) (yRt τ 0) (nI 0)).toInt64))), (3, .int (nI 1))] [.int (nI 1), .ref 50, .long (31 * (ymx h5 ((zfv (ysr τ) (ynp τ) (yRt τ 0) (nI 0)).toInt64)))] μ14 rfl trivial ?_
  refine zq_call zt_X9_digest [.ref 50, .int (nI 1)] [.long (31 * (ymx h5 ((zfv (ysr τ) (ynp τ) (yRt τ 0) (nI 0)).toInt64)))] (zs_foundOf (nI 1) i14) rfl rfl ?_
  rintro _ μ15 ⟨rfl, i15, g15⟩
  have f15 := (f14).tr g15
  refine zq_go zt_X9_digest 5 [] 185 [(0, .ref 50), (1, .long ((31 * (ymx h5 ((zfv (ysr τ) (ynp τ) (yRt τ 0) (nI 0)).toInt64))) + ((zfv (ysr τ) (ynp τ) (yRt τ 0) (nI 1)).toInt64))), (3, .int ((nI 1) + (nI 1)))] [] μ15 rfl trivial ?_
  rw [zn_add 1 1]
  rw [show (31 * (ymx h5 ((zfv (ysr τ) (ynp τ) (yRt τ 0) (nI 0)).toInt64))) + ((zfv (ysr τ) (ynp τ) (yRt τ 0) (nI 1)).toInt64) = ymx (ymx h5 ((zfv (ysr τ) (ynp τ) (yRt τ 0) (nI 0)).toInt64)) ((zfv (ysr τ) (ynp τ) (yRt τ 0) (nI 1)).toInt64) from rfl]
  rw [show nI (1 + 1) = nI 2 from rfl]
  refine zq_go zt_X9_digest 3 [] (if (nI 3) ≤ (nI 2) then 209 else 190) [(0, .ref 50), (1, .long (ymx (ymx h5 ((zfv (ysr τ) (ynp τ) (yRt τ 0) (nI 0)).toInt64)) ((zfv (ysr τ) (ynp τ) (yRt τ 0) (nI 1)).toInt64))), (3, .int (nI 2))] [] μ15 rfl trivial ?_
  rw [if_neg (by decide)]
  refine zq_go zt_X9_digest 5 [] 197 [(0, .ref 50), (1, .long (ymx (ymx h5 ((zfv (ysr τ) (ynp τ) (yRt τ 0) (nI 0)).toInt64)) ((zfv (ysr τ) (ynp τ) (yRt τ 0) (nI 1)).toInt64))), (3, .int (nI 2))] [.int (nI 2), .ref 50, .long (31 * (ymx (ymx h5 ((zfv (ysr τ) (ynp τ) (yRt τ 0) (nI 0)).toInt64)) ((zfv (ysr τ) (ynp τ) (yRt τ 0) (nI 1)).toInt64)))] μ15 rfl trivial ?_
  refine zq_call zt_X9_digest [.ref 50, .int (nI 2)] [.long (31 * (ymx (ymx h5 ((zfv (ysr τ) (ynp τ) (yRt τ 0) (nI 0)).toInt64)) ((zfv (ysr τ) (ynp τ) (yRt τ 0) (nI 1)).toInt64)))] (zs_foundOf (nI 2) i15) rfl rfl ?_
  rintro _ μ16 ⟨rfl, i16, g16⟩
  have f16 := (f15).tr g16
  refine zq_go zt_X9_digest 5 [] 185 [(0, .ref 50), (1, .long ((31 * (ymx (ymx h5 ((zfv (ysr τ) (ynp τ) (yRt τ 0) (nI 0)).toInt64)) ((zfv (ysr τ) (ynp τ) (yRt τ 0) (nI 1)).toInt64))) + ((zfv (ysr τ) (ynp τ) (yRt τ 0) (nI 2)).toInt64))), (3, .int ((nI 2) + (nI 1)))] [] μ16 rfl trivial ?_
  rw [zn_add 2 1]
  rw [show (31 * (ymx (ymx h5 ((zfv (ysr τ) (ynp τ) (yRt τ 0) (nI 0)).toInt64)) ((zfv (ysr τ) (ynp τ) (yRt τ 0) (nI 1)).toInt64))) + ((zfv (ysr τ) (ynp τ) (yRt τ 0) (nI 2)).toInt64) = ymx (ymx (ymx h5 ((zfv (ysr τ) (ynp τ) (yRt τ 0) (nI 0)).toInt64)) ((zfv (ysr τ) (ynp τ) (yRt τ 0) (nI 1)).toInt64)) ((zfv (ysr τ) (ynp τ) (yRt τ 0) (nI 2)).toInt64) from rfl]
  rw [show nI (2 + 1) = nI 3 from rfl]
  refine zq_go zt_X9_digest 3 [] (if (nI 3) ≤ (nI 3) then 209 else 190) [(0, .ref 50), (1, .long (ymx (ymx (ymx h5 ((zfv (ysr τ) (ynp τ) (yRt τ 0) (nI 0)).toInt64)) ((zfv (ysr τ) (ynp τ) (yRt τ 0) (nI 1)).toInt64)) ((zfv (ysr τ) (ynp τ) (yRt τ 0) (nI 2)).toInt64))), (3, .int (nI 3))] [] μ16 rfl trivial ?_
  rw [if_pos (by decide)]
  refine zq_go zt_X9_digest 2 [] 211 [(0, .ref 50), (1, .long (ymx (ymx (ymx h5 ((zfv (ysr τ) (ynp τ) (yRt τ 0) (nI 0)).toInt64)) ((zfv (ysr τ) (ynp τ) (yRt τ 0) (nI 1)).toInt64)) ((zfv (ysr τ) (ynp τ) (yRt τ 0) (nI 2)).toInt64))), (3, .int (nI 0))] [] μ16 rfl trivial ?_
  refine zq_go zt_X9_digest 3 [] (if (nI 3) ≤ (nI 0) then 235 else 216) [(0, .ref 50), (1, .long (ymx (ymx (ymx h5 ((zfv (ysr τ) (ynp τ) (yRt τ 0) (nI 0)).toInt64)) ((zfv (ysr τ) (ynp τ) (yRt τ 0) (nI 1)).toInt64)) ((zfv (ysr τ) (ynp τ) (yRt τ 0) (nI 2)).toInt64))), (3, .int (nI 0))] [] μ16 rfl trivial ?_
  rw [if_neg (by decide)]
  refine zq_go zt_X9_digest 5 [] 223 [(0, .ref 50), (1, .long (ymx (ymx (ymx h5 ((zfv (ysr τ) (ynp τ) (yRt τ 0) (nI 0)).toInt64)) ((zfv (ysr τ) (ynp τ) (yRt τ 0) (nI 1)).toInt64)) ((zfv (ysr τ) (ynp τ) (yRt τ 0) (nI 2)).toInt64))), (3, .int (nI 0))] [.int (nI 0), .ref 50, .long (31 * (ymx (ymx (ymx h5 ((zfv (ysr τ) (ynp τ) (yRt τ 0) (nI 0)).toInt64)) ((zfv (ysr τ) (ynp τ) (yRt τ 0) (nI 1)).toInt64)) ((zfv (ysr τ) (ynp τ) (yRt τ 0) (nI 2)).toInt64)))] μ16 rfl trivial ?_
  refine zq_call zt_X9_digest [.ref 50, .int (nI 0)] [.long (31 * (ymx (ymx (ymx h5 ((zfv (ysr τ) (ynp τ) (yRt τ 0) (nI 0)).toInt64)) ((zfv (ysr τ) (ynp τ) (yRt τ 0) (nI 1)).toInt64)) ((zfv (ysr τ) (ynp τ) (yRt τ 0) (nI 2)).toInt64)))] (zs_crowdOf (x := 0) (by decide) i16) rfl rfl ?_
  rintro _ μ17 ⟨rfl, i17, g17⟩
  have f17 := (f16).tr g17
  refine zq_go zt_X9_digest 5 [] 211 [(0, .ref 50), (1, .long ((31 * (ymx (ymx (ymx h5 ((zfv (ysr τ) (ynp τ) (yRt τ 0) (nI 0)).toInt64)) ((zfv (ysr τ) (ynp τ) (yRt τ 0) (nI 1)).toInt64)) ((zfv (ysr τ) (ynp τ) (yRt τ 0) (nI 2)).toInt64))) + ((nI (yCrowd τ 0)).toInt64))), (3, .int ((nI 0) + (nI 1)))] [] μ17 rfl trivial ?_
  rw [zn_add 0 1]
  rw [show (31 * (ymx (ymx (ymx h5 ((zfv (ysr τ) (ynp τ) (yRt τ 0) (nI 0)).toInt64)) ((zfv (ysr τ) (ynp τ) (yRt τ 0) (nI 1)).toInt64)) ((zfv (ysr τ) (ynp τ) (yRt τ 0) (nI 2)).toInt64))) + ((nI (yCrowd τ 0)).toInt64) = ymx (ymx (ymx (ymx h5 ((zfv (ysr τ) (ynp τ) (yRt τ 0) (nI 0)).toInt64)) ((zfv (ysr τ) (ynp τ) (yRt τ 0) (nI 1)).toInt64)) ((zfv (ysr τ) (ynp τ) (yRt τ 0) (nI 2)).toInt64)) ((nI (yCrowd τ 0)).toInt64) from rfl]
  rw [show nI (0 + 1) = nI 1 from rfl]
  refine zq_go zt_X9_digest 3 [] (if (nI 3) ≤ (nI 1) then 235 else 216) [(0, .ref 50), (1, .long (ymx (ymx (ymx (ymx h5 ((zfv (ysr τ) (ynp τ) (yRt τ 0) (nI 0)).toInt64)) ((zfv (ysr τ) (ynp τ) (yRt τ 0) (nI 1)).toInt64)) ((zfv (ysr τ) (ynp τ) (yRt τ 0) (nI 2)).toInt64)) ((nI (yCrowd τ 0)).toInt64))), (3, .int (nI 1))] [] μ17 rfl trivial ?_
  rw [if_neg (by decide)]
  refine zq_go zt_X9_digest 5 [] 223 [(0, .ref 50), (1, .long (ymx (ymx (ymx (ymx h5 ((zfv (ysr τ) (ynp τ) (yRt τ 0) (nI 0)).toInt64)) ((zfv (ysr τ) (ynp τ) (yRt τ 0) (nI 1)).toInt64)) ((zfv (ysr τ) (ynp τ) (yRt τ 0) (nI 2)).toInt64)) ((nI (yCrowd τ 0)).toInt64))), (3, .int (nI 1))] [.int (nI 1), .ref 50, .long (31 * (ymx (ymx (ymx (ymx h5 ((zfv (ysr τ) (ynp τ) (yRt τ 0) (nI 0)).toInt64)) ((zfv (ysr τ) (ynp τ) (yRt τ 0) (nI 1)).toInt64)) ((zfv (ysr τ) (ynp τ) (yRt τ 0) (nI 2)).toInt64)) ((nI (yCrowd τ 0)).toInt64)))] μ17 rfl trivial ?_
  refine zq_call zt_X9_digest [.ref 50, .int (nI 1)] [.long (31 * (ymx (ymx (ymx (ymx h5 ((zfv (ysr τ) (ynp τ) (yRt τ 0) (nI 0)).toInt64)) ((zfv (ysr τ) (ynp τ) (yRt τ 0) (nI 1)).toInt64)) ((zfv (ysr τ) (ynp τ) (yRt τ 0) (nI 2)).toInt64)) ((nI (yCrowd τ 0)).toInt64)))] (zs_crowdOf (x := 1) (by decide) i17) rfl rfl ?_
  rintro _ μ18 ⟨rfl, i18, g18⟩
  have f18 := (f17).tr g18
  refine zq_go zt_X9_digest 5 [] 211 [(0, .ref 50), (1, .long ((31 * (ymx (ymx (ymx (ymx h5 ((zfv (ysr τ) (ynp τ) (yRt τ 0) (nI 0)).toInt64)) ((zfv (ysr τ) (ynp τ) (yRt τ 0) (nI 1)).toInt64)) ((zfv (ysr τ) (ynp τ) (yRt τ 0) (nI 2)).toInt64)) ((nI (yCrowd τ 0)).toInt64))) + ((nI (yCrowd τ 1)).toInt64))), (3, .int ((nI 1) + (nI 1)))] [] μ18 rfl trivial ?_
  rw [zn_add 1 1]
  rw [show (31 * (ymx (ymx (ymx (ymx h5 ((zfv (ysr τ) (ynp τ) (yRt τ 0) (nI 0)).toInt64)) ((zfv (ysr τ) (ynp τ) (yRt τ 0) (nI 1)).toInt64)) ((zfv (ysr τ) (ynp τ) (yRt τ 0) (nI 2)).toInt64)) ((nI (yCrowd τ 0)).toInt64))) + ((nI (yCrowd τ 1)).toInt64) = ymx (ymx (ymx (ymx (ymx h5 ((zfv (ysr τ) (ynp τ) (yRt τ 0) (nI 0)).toInt64)) ((zfv (ysr τ) (ynp τ) (yRt τ 0) (nI 1)).toInt64)) ((zfv (ysr τ) (ynp τ) (yRt τ 0) (nI 2)).toInt64)) ((nI (yCrowd τ 0)).toInt64)) ((nI (yCrowd τ 1)).toInt64) from rfl]
  rw [show nI (1 + 1) = nI 2 from rfl]
  refine zq_go zt_X9_digest 3 [] (if (nI 3) ≤ (nI 2) then 235 else 216) [(0, .ref 50), (1, .long (ymx (ymx (ymx (ymx (ymx h5 ((zfv (ysr τ) (ynp τ) (yRt τ 0) (nI 0)).toInt64)) ((zfv (ysr τ) (ynp τ) (yRt τ 0) (nI 1)).toInt64)) ((zfv (ysr τ) (ynp τ) (yRt τ 0) (nI 2)).toInt64)) ((nI (yCrowd τ 0)).toInt64)) ((nI (yCrowd τ 1)).toInt64))), (3, .int (nI 2))] [] μ18 rfl trivial ?_
  rw [if_neg (by decide)]
  refine zq_go zt_X9_digest 5 [] 223 [(0, .ref 50), (1, .long (ymx (ymx (ymx (ymx (ymx h5 ((zfv (ysr τ) (ynp τ) (yRt τ 0) (nI 0)).toInt64)) ((zfv (ysr τ) (ynp τ) (yRt τ 0) (nI 1)).toInt64)) ((zfv (ysr τ) (ynp τ) (yRt τ 0) (nI 2)).toInt64)) ((nI (yCrowd τ 0)).toInt64)) ((nI (yCrowd τ 1)).toInt64))), (3, .int (nI 2))] [.int (nI 2), .ref 50, .long (31 * (ymx (ymx (ymx (ymx (ymx h5 ((zfv (ysr τ) (ynp τ) (yRt τ 0) (nI 0)).toInt64)) ((zfv (ysr τ) (ynp τ) (yRt τ 0) (nI 1)).toInt64)) ((zfv (ysr τ) (ynp τ) (yRt τ 0) (nI 2)).toInt64)) ((nI (yCrowd τ 0)).toInt64)) ((nI (yCrowd τ 1)).toInt64)))] μ18 rfl trivial ?_
  refine zq_call zt_X9_digest [.ref 50, .int (nI 2)] [.long (31 * (ymx (ymx (ymx (ymx (ymx h5 ((zfv (ysr τ) (ynp τ) (yRt τ 0) (nI 0)).toInt64)) ((zfv (ysr τ) (ynp τ) (yRt τ 0) (nI 1)).toInt64)) ((zfv (ysr τ) (ynp τ) (yRt τ 0) (nI 2)).toInt64)) ((nI (yCrowd τ 0)).toInt64)) ((nI (yCrowd τ 1)).toInt64)))] (zs_crowdOf (x := 2) (by decide) i18) rfl rfl ?_
  rintro _ μ19 ⟨rfl, i19, g19⟩
  have f19 := (f18).tr g19
  refine zq_go zt_X9_digest 5 [] 211 [(0, .ref 50), (1, .long ((31 * (ymx (ymx (ymx (ymx (ymx h5 ((zfv (ysr τ) (ynp τ) (yRt τ 0) (nI 0)).toInt64)) ((zfv (ysr τ) (ynp τ) (yRt τ 0) (nI 1)).toInt64)) ((zfv (ysr τ) (ynp τ) (yRt τ 0) (nI 2)).toInt64)) ((nI (yCrowd τ 0)).toInt64)) ((nI (yCrowd τ 1)).toInt64))) + ((nI (yCrowd τ 2)).toInt64))), (3, .int ((nI 2) + (nI 1)))] [] μ19 rfl trivial ?_
  rw [zn_add 2 1]
  rw [show (31 * (ymx (ymx (ymx (ymx (ymx h5 ((zfv (ysr τ) (ynp τ) (yRt τ 0) (nI 0)).toInt64)) ((zfv (ysr τ) (ynp τ) (yRt τ 0) (nI 1)).toInt64)) ((zfv (ysr τ) (ynp τ) (yRt τ 0) (nI 2)).toInt64)) ((nI (yCrowd τ 0)).toInt64)) ((nI (yCrowd τ 1)).toInt64))) + ((nI (yCrowd τ 2)).toInt64) = ymx (ymx (ymx (ymx (ymx (ymx h5 ((zfv (ysr τ) (ynp τ) (yRt τ 0) (nI 0)).toInt64)) ((zfv (ysr τ) (ynp τ) (yRt τ 0) (nI 1)).toInt64)) ((zfv (ysr τ) (ynp τ) (yRt τ 0) (nI 2)).toInt64)) ((nI (yCrowd τ 0)).toInt64)) ((nI (yCrowd τ 1)).toInt64)) ((nI (yCrowd τ 2)).toInt64) from rfl]
  rw [show nI (2 + 1) = nI 3 from rfl]
  refine zq_go zt_X9_digest 3 [] (if (nI 3) ≤ (nI 3) then 235 else 216) [(0, .ref 50), (1, .long (ymx (ymx (ymx (ymx (ymx (ymx h5 ((zfv (ysr τ) (ynp τ) (yRt τ 0) (nI 0)).toInt64)) ((zfv (ysr τ) (ynp τ) (yRt τ 0) (nI 1)).toInt64)) ((zfv (ysr τ) (ynp τ) (yRt τ 0) (nI 2)).toInt64)) ((nI (yCrowd τ 0)).toInt64)) ((nI (yCrowd τ 1)).toInt64)) ((nI (yCrowd τ 2)).toInt64))), (3, .int (nI 3))] [] μ19 rfl trivial ?_
  rw [if_pos (by decide)]
  refine zq_go zt_X9_digest 4 [] 241 [(0, .ref 50), (1, .long (ymx (ymx (ymx (ymx (ymx (ymx h5 ((zfv (ysr τ) (ynp τ) (yRt τ 0) (nI 0)).toInt64)) ((zfv (ysr τ) (ynp τ) (yRt τ 0) (nI 1)).toInt64)) ((zfv (ysr τ) (ynp τ) (yRt τ 0) (nI 2)).toInt64)) ((nI (yCrowd τ 0)).toInt64)) ((nI (yCrowd τ 1)).toInt64)) ((nI (yCrowd τ 2)).toInt64))), (3, .int (nI 3))] [.ref 50, .long (31 * (ymx (ymx (ymx (ymx (ymx (ymx h5 ((zfv (ysr τ) (ynp τ) (yRt τ 0) (nI 0)).toInt64)) ((zfv (ysr τ) (ynp τ) (yRt τ 0) (nI 1)).toInt64)) ((zfv (ysr τ) (ynp τ) (yRt τ 0) (nI 2)).toInt64)) ((nI (yCrowd τ 0)).toInt64)) ((nI (yCrowd τ 1)).toInt64)) ((nI (yCrowd τ 2)).toInt64)))] μ19 rfl trivial ?_
  refine zq_call zt_X9_digest [.ref 50] [.long (31 * (ymx (ymx (ymx (ymx (ymx (ymx h5 ((zfv (ysr τ) (ynp τ) (yRt τ 0) (nI 0)).toInt64)) ((zfv (ysr τ) (ynp τ) (yRt τ 0) (nI 1)).toInt64)) ((zfv (ysr τ) (ynp τ) (yRt τ 0) (nI 2)).toInt64)) ((nI (yCrowd τ 0)).toInt64)) ((nI (yCrowd τ 1)).toInt64)) ((nI (yCrowd τ 2)).toInt64)))] (zs_aloneOf i19) rfl rfl ?_
  rintro _ μ20 ⟨rfl, i20, g20⟩
  have f20 := (f19).tr g20
  refine zq_go zt_X9_digest 3 [] 247 [(0, .ref 50), (1, .long ((31 * (ymx (ymx (ymx (ymx (ymx (ymx h5 ((zfv (ysr τ) (ynp τ) (yRt τ 0) (nI 0)).toInt64)) ((zfv (ysr τ) (ynp τ) (yRt τ 0) (nI 1)).toInt64)) ((zfv (ysr τ) (ynp τ) (yRt τ 0) (nI 2)).toInt64)) ((nI (yCrowd τ 0)).toInt64)) ((nI (yCrowd τ 1)).toInt64)) ((nI (yCrowd τ 2)).toInt64))) + ((nI (zal (ynp τ) (yRt τ 0) 23)).toInt64))), (3, .int (nI 3))] [] μ20 rfl trivial ?_
  rw [show (31 * (ymx (ymx (ymx (ymx (ymx (ymx h5 ((zfv (ysr τ) (ynp τ) (yRt τ 0) (nI 0)).toInt64)) ((zfv (ysr τ) (ynp τ) (yRt τ 0) (nI 1)).toInt64)) ((zfv (ysr τ) (ynp τ) (yRt τ 0) (nI 2)).toInt64)) ((nI (yCrowd τ 0)).toInt64)) ((nI (yCrowd τ 1)).toInt64)) ((nI (yCrowd τ 2)).toInt64))) + ((nI (zal (ynp τ) (yRt τ 0) 23)).toInt64) = ymx (ymx (ymx (ymx (ymx (ymx (ymx h5 ((zfv (ysr τ) (ynp τ) (yRt τ 0) (nI 0)).toInt64)) ((zfv (ysr τ) (ynp τ) (yRt τ 0) (nI 1)).toInt64)) ((zfv (ysr τ) (ynp τ) (yRt τ 0) (nI 2)).toInt64)) ((nI (yCrowd τ 0)).toInt64)) ((nI (yCrowd τ 1)).toInt64)) ((nI (yCrowd τ 2)).toInt64)) ((nI (zal (ynp τ) (yRt τ 0) 23)).toInt64) from rfl]
  rw [show ymx (ymx (ymx (ymx (ymx (ymx (ymx h5 ((zfv (ysr τ) (ynp τ) (yRt τ 0) (nI 0)).toInt64)) ((zfv (ysr τ) (ynp τ) (yRt τ 0) (nI 1)).toInt64)) ((zfv (ysr τ) (ynp τ) (yRt τ 0) (nI 2)).toInt64)) ((nI (yCrowd τ 0)).toInt64)) ((nI (yCrowd τ 1)).toInt64)) ((nI (yCrowd τ 2)).toInt64)) ((nI (zal (ynp τ) (yRt τ 0) 23)).toInt64) = yD6 τ h5 from rfl]
  refine zq_go zt_X9_digest 6 [] 256 [(0, .ref 50), (1, .long (yD6 τ h5)), (3, .int (nI 3))] [.int (nI 0), .int (nI 8), .ref 50, .long (31 * (yD6 τ h5))] μ20 rfl trivial ?_
  refine zq_call zt_X9_digest [.ref 50, .int (nI 8), .int (nI 0)] [.long (31 * (yD6 τ h5))] (zs_niceOf (k := 8) (w := 0) (by decide) (by decide) i20) rfl rfl ?_
  rintro _ μ21 ⟨rfl, i21, g21⟩
  have f21 := (f20).tr g21
  refine zq_go zt_X9_digest 3 [] 262 [(0, .ref 50), (1, .long ((31 * (yD6 τ h5)) + ((nI (ySl (ynf τ 8) 0)).toInt64))), (3, .int (nI 3))] [] μ21 rfl trivial ?_
  rw [show (31 * (yD6 τ h5)) + ((nI (ySl (ynf τ 8) 0)).toInt64) = ymx (yD6 τ h5) ((nI (ySl (ynf τ 8) 0)).toInt64) from rfl]
  refine zq_go zt_X9_digest 6 [] 271 [(0, .ref 50), (1, .long (ymx (yD6 τ h5) ((nI (ySl (ynf τ 8) 0)).toInt64))), (3, .int (nI 3))] [.int (nI 1), .int (nI 8), .ref 50, .long (31 * (ymx (yD6 τ h5) ((nI (ySl (ynf τ 8) 0)).toInt64)))] μ21 rfl trivial ?_
  refine zq_call zt_X9_digest [.ref 50, .int (nI 8), .int (nI 1)] [.long (31 * (ymx (yD6 τ h5) ((nI (ySl (ynf τ 8) 0)).toInt64)))] (zs_niceOf (k := 8) (w := 1) (by decide) (by decide) i21) rfl rfl ?_
  rintro _ μ22 ⟨rfl, i22, g22⟩
  have f22 := (f21).tr g22
  refine zq_go zt_X9_digest 3 [] 277 [(0, .ref 50), (1, .long ((31 * (ymx (yD6 τ h5) ((nI (ySl (ynf τ 8) 0)).toInt64))) + ((nI (ySl (ynf τ 8) 1)).toInt64))), (3, .int (nI 3))] [] μ22 rfl trivial ?_
  rw [show (31 * (ymx (yD6 τ h5) ((nI (ySl (ynf τ 8) 0)).toInt64))) + ((nI (ySl (ynf τ 8) 1)).toInt64) = ymx (ymx (yD6 τ h5) ((nI (ySl (ynf τ 8) 0)).toInt64)) ((nI (ySl (ynf τ 8) 1)).toInt64) from rfl]
  refine zq_go zt_X9_digest 5 [] 284 [(0, .ref 50), (1, .long (ymx (ymx (yD6 τ h5) ((nI (ySl (ynf τ 8) 0)).toInt64)) ((nI (ySl (ynf τ 8) 1)).toInt64))), (3, .int (nI 3))] [.int (nI 0), .ref 50, .long (31 * (ymx (ymx (yD6 τ h5) ((nI (ySl (ynf τ 8) 0)).toInt64)) ((nI (ySl (ynf τ 8) 1)).toInt64)))] μ22 rfl trivial ?_
  refine zq_call zt_X9_digest [.ref 50, .int (nI 0)] [.long (31 * (ymx (ymx (yD6 τ h5) ((nI (ySl (ynf τ 8) 0)).toInt64)) ((nI (ySl (ynf τ 8) 1)).toInt64)))] (zs_lensOf (w := 0) (by decide) i22) rfl rfl ?_
  rintro _ μ23 ⟨rfl, i23, g23⟩
  have f23 := (f22).tr g23
  refine zq_go zt_X9_digest 3 [] 290 [(0, .ref 50), (1, .long ((31 * (ymx (ymx (yD6 τ h5) ((nI (ySl (ynf τ 8) 0)).toInt64)) ((nI (ySl (ynf τ 8) 1)).toInt64))) + ((yLe τ 0).toInt64))), (3, .int (nI 3))] [] μ23 rfl trivial ?_
  rw [show (31 * (ymx (ymx (yD6 τ h5) ((nI (ySl (ynf τ 8) 0)).toInt64)) ((nI (ySl (ynf τ 8) 1)).toInt64))) + ((yLe τ 0).toInt64) = ymx (ymx (ymx (yD6 τ h5) ((nI (ySl (ynf τ 8) 0)).toInt64)) ((nI (ySl (ynf τ 8) 1)).toInt64)) ((yLe τ 0).toInt64) from rfl]
  refine zq_go zt_X9_digest 5 [] 297 [(0, .ref 50), (1, .long (ymx (ymx (ymx (yD6 τ h5) ((nI (ySl (ynf τ 8) 0)).toInt64)) ((nI (ySl (ynf τ 8) 1)).toInt64)) ((yLe τ 0).toInt64))), (3, .int (nI 3))] [.int (nI 1), .ref 50, .long (31 * (ymx (ymx (ymx (yD6 τ h5) ((nI (ySl (ynf τ 8) 0)).toInt64)) ((nI (ySl (ynf τ 8) 1)).toInt64)) ((yLe τ 0).toInt64)))] μ23 rfl trivial ?_
  refine zq_call zt_X9_digest [.ref 50, .int (nI 1)] [.long (31 * (ymx (ymx (ymx (yD6 τ h5) ((nI (ySl (ynf τ 8) 0)).toInt64)) ((nI (ySl (ynf τ 8) 1)).toInt64)) ((yLe τ 0).toInt64)))] (zs_lensOf (w := 1) (by decide) i23) rfl rfl ?_
  rintro _ μ24 ⟨rfl, i24, g24⟩
  have f24 := (f23).tr g24
  refine zq_go zt_X9_digest 3 [] 303 [(0, .ref 50), (1, .long ((31 * (ymx (ymx (ymx (yD6 τ h5) ((nI (ySl (ynf τ 8) 0)).toInt64)) ((nI (ySl (ynf τ 8) 1)).toInt64)) ((yLe τ 0).toInt64))) + ((yLe τ 1).toInt64))), (3, .int (nI 3))] [] μ24 rfl trivial ?_
  rw [show (31 * (ymx (ymx (ymx (yD6 τ h5) ((nI (ySl (ynf τ 8) 0)).toInt64)) ((nI (ySl (ynf τ 8) 1)).toInt64)) ((yLe τ 0).toInt64))) + ((yLe τ 1).toInt64) = ymx (ymx (ymx (ymx (yD6 τ h5) ((nI (ySl (ynf τ 8) 0)).toInt64)) ((nI (ySl (ynf τ 8) 1)).toInt64)) ((yLe τ 0).toInt64)) ((yLe τ 1).toInt64) from rfl]
  rw [show ymx (ymx (ymx (ymx (yD6 τ h5) ((nI (ySl (ynf τ 8) 0)).toInt64)) ((nI (ySl (ynf τ 8) 1)).toInt64)) ((yLe τ 0).toInt64)) ((yLe τ 1).toInt64) = yD7 τ (yD6 τ h5) from rfl]
  refine zq_go zt_X9_digest 1 [] 304 [(0, .ref 50), (1, .long (yD7 τ (yD6 τ h5))), (3, .int (nI 3))] [.ref 50] μ24 rfl trivial ?_
  refine zq_call zt_X9_digest [.ref 50] [] (zs_spareBy i24) rfl rfl ?_
  rintro _ μ25 ⟨rfl, i25, g25, hp9⟩
  have f25 := (f24).tr g25
  refine zq_go zt_X9_digest 8 [] 317 [(0, .ref 50), (1, .long ((31 * (yD7 τ (yD6 τ h5))) + ((ySpn τ).toInt64))), (3, .int (ySpn τ))] [] μ25 rfl trivial ?_
  rw [show 31 * yD7 τ (yD6 τ h5) + (ySpn τ).toInt64 = ymx (yD7 τ (yD6 τ h5)) (ySv τ (-1)).toInt64 by rw [ySv_m]; rfl]
  refine zq_go zt_X9_digest 6 [] 325 [(0, .ref 50), (1, .long (ymx (yD7 τ (yD6 τ h5)) ((ySv τ (-1)).toInt64))), (3, .int (ySpn τ))] [.int (nI 0), .int (ySpn τ), .ref 50, .long (31 * (ymx (yD7 τ (yD6 τ h5)) ((ySv τ (-1)).toInt64)))] μ25 rfl trivial ?_
  refine zq_call zt_X9_digest [.ref 50, .int (ySpn τ), .int (nI 0)] [.long (31 * (ymx (yD7 τ (yD6 τ h5)) ((ySv τ (-1)).toInt64)))] (zs_ofRow_0 hp9) rfl rfl ?_
  rintro _ _ ⟨rfl, rfl⟩
  refine zq_go zt_X9_digest 3 [] 331 [(0, .ref 50), (1, .long ((31 * (ymx (yD7 τ (yD6 τ h5)) ((ySv τ (-1)).toInt64))) + ((ySv τ (nI 0)).toInt64))), (3, .int (ySpn τ))] [] μ25 rfl trivial ?_
  rw [show (31 * (ymx (yD7 τ (yD6 τ h5)) ((ySv τ (-1)).toInt64))) + ((ySv τ (nI 0)).toInt64) = ymx (ymx (yD7 τ (yD6 τ h5)) ((ySv τ (-1)).toInt64)) ((ySv τ (nI 0)).toInt64) from rfl]
  refine zq_go zt_X9_digest 4 [] 337 [(0, .ref 50), (1, .long (ymx (ymx (yD7 τ (yD6 τ h5)) ((ySv τ (-1)).toInt64)) ((ySv τ (nI 0)).toInt64))), (3, .int (ySpn τ))] [.ref 50, .long (31 * (ymx (ymx (yD7 τ (yD6 τ h5)) ((ySv τ (-1)).toInt64)) ((ySv τ (nI 0)).toInt64)))] μ25 rfl trivial ?_
  refine zq_call zt_X9_digest [.ref 50] [.long (31 * (ymx (ymx (yD7 τ (yD6 τ h5)) ((ySv τ (-1)).toInt64)) ((ySv τ (nI 0)).toInt64)))] (zs_neverNow i25) rfl rfl ?_
  rintro _ μ26 ⟨rfl, i26, g26⟩
  have f26 := (f25).tr g26
  refine zq_go zt_X9_digest 3 [] 343 [(0, .ref 50), (1, .long ((31 * (ymx (ymx (yD7 τ (yD6 τ h5)) ((ySv τ (-1)).toInt64)) ((ySv τ (nI 0)).toInt64))) + ((nI (zm (ynv τ S) (yne τ))).toInt64))), (3, .int (ySpn τ))] [] μ26 rfl trivial ?_
  rw [show (31 * (ymx (ymx (yD7 τ (yD6 τ h5)) ((ySv τ (-1)).toInt64)) ((ySv τ (nI 0)).toInt64))) + ((nI (zm (ynv τ S) (yne τ))).toInt64) = ymx (ymx (ymx (yD7 τ (yD6 τ h5)) ((ySv τ (-1)).toInt64)) ((ySv τ (nI 0)).toInt64)) ((nI (zm (ynv τ S) (yne τ))).toInt64) from rfl]
  refine zq_go zt_X9_digest 7 [] 354 [(0, .ref 50), (1, .long (ymx (ymx (ymx (yD7 τ (yD6 τ h5)) ((ySv τ (-1)).toInt64)) ((ySv τ (nI 0)).toInt64)) ((nI (zm (ynv τ S) (yne τ))).toInt64))), (3, .int (ySpn τ))] [.int (nI 0), .int (nI 6), .int (nI 7), .ref 50, .long (31 * (ymx (ymx (ymx (yD7 τ (yD6 τ h5)) ((ySv τ (-1)).toInt64)) ((ySv τ (nI 0)).toInt64)) ((nI (zm (ynv τ S) (yne τ))).toInt64)))] μ26 rfl trivial ?_
  refine zq_call zt_X9_digest [.ref 50, .int (nI 7), .int (nI 6), .int (nI 0)] [.long (31 * (ymx (ymx (ymx (yD7 τ (yD6 τ h5)) ((ySv τ (-1)).toInt64)) ((ySv τ (nI 0)).toInt64)) ((nI (zm (ynv τ S) (yne τ))).toInt64)))] (zs_weeksOf (nI 7) (n := 6) (w := 0) (by decide) (by decide) i26) rfl rfl ?_
  rintro _ μ27 ⟨rfl, i27, g27⟩
  have f27 := (f26).tr g27
  refine zq_go zt_X9_digest 3 [] 360 [(0, .ref 50), (1, .long ((31 * (ymx (ymx (ymx (yD7 τ (yD6 τ h5)) ((ySv τ (-1)).toInt64)) ((ySv τ (nI 0)).toInt64)) ((nI (zm (ynv τ S) (yne τ))).toInt64))) + ((nI (yWk τ (nI 7) 6 0)).toInt64))), (3, .int (ySpn τ))] [] μ27 rfl trivial ?_
  rw [show (31 * (ymx (ymx (ymx (yD7 τ (yD6 τ h5)) ((ySv τ (-1)).toInt64)) ((ySv τ (nI 0)).toInt64)) ((nI (zm (ynv τ S) (yne τ))).toInt64))) + ((nI (yWk τ (nI 7) 6 0)).toInt64) = ymx (ymx (ymx (ymx (yD7 τ (yD6 τ h5)) ((ySv τ (-1)).toInt64)) ((ySv τ (nI 0)).toInt64)) ((nI (zm (ynv τ S) (yne τ))).toInt64)) ((nI (yWk τ (nI 7) 6 0)).toInt64) from rfl]
  refine zq_go zt_X9_digest 7 [] 371 [(0, .ref 50), (1, .long (ymx (ymx (ymx (ymx (yD7 τ (yD6 τ h5)) ((ySv τ (-1)).toInt64)) ((ySv τ (nI 0)).toInt64)) ((nI (zm (ynv τ S) (yne τ))).toInt64)) ((nI (yWk τ (nI 7) 6 0)).toInt64))), (3, .int (ySpn τ))] [.int (nI 1), .int (nI 6), .int (nI 7), .ref 50, .long (31 * (ymx (ymx (ymx (ymx (yD7 τ (yD6 τ h5)) ((ySv τ (-1)).toInt64)) ((ySv τ (nI 0)).toInt64)) ((nI (zm (ynv τ S) (yne τ))).toInt64)) ((nI (yWk τ (nI 7) 6 0)).toInt64)))] μ27 rfl trivial ?_
  refine zq_call zt_X9_digest [.ref 50, .int (nI 7), .int (nI 6), .int (nI 1)] [.long (31 * (ymx (ymx (ymx (ymx (yD7 τ (yD6 τ h5)) ((ySv τ (-1)).toInt64)) ((ySv τ (nI 0)).toInt64)) ((nI (zm (ynv τ S) (yne τ))).toInt64)) ((nI (yWk τ (nI 7) 6 0)).toInt64)))] (zs_weeksOf (nI 7) (n := 6) (w := 1) (by decide) (by decide) i27) rfl rfl ?_
  rintro _ μ28 ⟨rfl, i28, g28⟩
  have f28 := (f27).tr g28
  refine zq_go zt_X9_digest 2 [] 376 [(0, .ref 50), (1, .long (ymx (ymx (ymx (ymx (yD7 τ (yD6 τ h5)) ((ySv τ (-1)).toInt64)) ((ySv τ (nI 0)).toInt64)) ((nI (zm (ynv τ S) (yne τ))).toInt64)) ((nI (yWk τ (nI 7) 6 0)).toInt64))), (3, .int (ySpn τ))] [.long ((31 * (ymx (ymx (ymx (ymx (yD7 τ (yD6 τ h5)) ((ySv τ (-1)).toInt64)) ((ySv τ (nI 0)).toInt64)) ((nI (zm (ynv τ S) (yne τ))).toInt64)) ((nI (yWk τ (nI 7) 6 0)).toInt64))) + ((nI (yWk τ (nI 7) 6 1)).toInt64))] μ28 rfl trivial ?_
  exact zq_retn zt_X9_digest rfl rfl (⟨rfl, i28, f28⟩)
theorem zo_digest : zop zn_X8_digest [(0, .ref 0)] zn_X9_digest [(0, .ref 50)] := fun τ S H μ hC _ => ⟨_, τ, S, H, zs_digest hC, fun _ h => zs_digestm h⟩
