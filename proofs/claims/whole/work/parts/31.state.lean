/-! ===== what both sides hold: told texts, lead, events, sights, sheets ===== -/
abbrev zES : Type := Nat × (Nat → Nat) × (Nat → Nat) × (Nat → Nat)
abbrev zTd : Type := (Nat × (Nat → Nat)) × (Nat × (Nat → Nat)) × Nat × zES
abbrev zSH : Type := (Nat → Bool) × (Nat → Nat) × (Nat → Nat) × (Nat → Nat → Int32) × Int32
def yn0 (τ : zTd) : Nat := τ.1.1
def yb0 (τ : zTd) : Nat → Nat := τ.1.2
def yn1 (τ : zTd) : Nat := τ.2.1.1
def yb1 (τ : zTd) : Nat → Nat := τ.2.1.2
def yld (τ : zTd) : Nat := τ.2.2.1
def yne (τ : zTd) : Nat := τ.2.2.2.1
def yek (τ : zTd) : Nat → Nat := τ.2.2.2.2.1
def yeh (τ : zTd) : Nat → Nat := τ.2.2.2.2.2.1
def yen (τ : zTd) : Nat → Nat := τ.2.2.2.2.2.2
def ynd (τ : zTd) : Nat := ztm (zok1 (yb0 τ)) 3 (yn0 τ)
def yo1 (τ : zTd) : Nat → Nat := zo1 (yb0 τ)
def yo2 (τ : zTd) : Nat → Nat := zo2 (yb0 τ)
def ynp (τ : zTd) : Nat := ztm (zok6 (yb1 τ)) 4 (yn1 τ)
def ysr (τ : zTd) : Nat → Nat := zps (yb1 τ)
def yst (τ : zTd) : Nat → Nat := zpt (yb1 τ)
def ybd (τ : zTd) : Nat → Nat := zpb (yb1 τ)
/-- a run: who is where, by these sorts, beds, events, lead -/
def yR (τ : zTd) (srt bed ek eh en : Nat → Nat) (wo ne ld : Nat) : Nat → Nat → Nat := fun p h => zR (zNx (ynd τ) (yo1 τ) (yo2 τ) (zSh ek eh en wo ne)) srt (yst τ) bed (zHm ek eh en wo ne) ld (ynp τ) p h
def yRt (τ : zTd) (wo : Nat) : Nat → Nat → Nat := yR τ (ysr τ) (ybd τ) (yek τ) (yeh τ) (yen τ) wo (yne τ) (yld τ)
theorem yp_lt {τ : zTd} {p : Nat} (h : p < ynp τ) : ysr τ p ≤ 2 ∧ yst τ p < 8 ∧ ybd τ p < 8 := zp_lt h
theorem yR_lt {τ : zTd} {srt bed ek eh en : Nat → Nat} {wo ne ld : Nat} (hn : zEn ne ek en) (hs : ∀ p, p < ynp τ → srt p ≤ 2 ∧ bed p < 8) {p h : Nat} (hp : p < ynp τ) (hh : h < 24) : yR τ srt bed ek eh en wo ne ld p h < 8 :=
  zR_lt (np := ynp τ) zNx_lt (fun q hq => ⟨(hs q hq).1, (yp_lt hq).2.1, (hs q hq).2⟩) (fun i _ => (zh_lt hn (i + 1)).1) hp hh
def zPb (np : Nat) (srt stt bed : Nat → Nat) (μ : zq_Me) : Prop := np ≤ 8 ∧ μ.1 6 5 = nI np ∧ ∀ p, p < np → μ.1 8 p = nI (srt p) ∧ srt p ≤ 2 ∧ μ.1 9 p = nI (stt p) ∧ stt p < 8 ∧ μ.1 10 p = nI (bed p) ∧ bed p < 8
theorem zPb.fr {np : Nat} {srt stt bed : Nat → Nat} {μ μ1 : zq_Me} {S : List Nat} (h : zPb np srt stt bed μ) (hf : zq_fr S μ μ1) (hs : 6 ∉ S ∧ 8 ∉ S ∧ 9 ∉ S ∧ 10 ∉ S) : zPb np srt stt bed μ1 := by
  obtain ⟨a, b, c⟩ := h
  refine ⟨a, by rw [hf.a hs.1]; exact b, fun p hp => ?_⟩
  rw [hf.a hs.2.1, hf.a hs.2.2.1, hf.a hs.2.2.2]
  exact c p hp
theorem zQ33.fr {np : Nat} {R : Nat → Nat → Nat} {μ μ1 : zq_Me} {S : List Nat} (h : zQ33 np R μ) (hf : zq_fr S μ μ1) (hs : 6 ∉ S ∧ 34 ∉ S) : zQ33 np R μ1 := ⟨h.1, by rw [hf.a hs.1]; exact h.2.1, fun p i hp hi => by rw [hf.a hs.2]; exact h.2.2 p i hp hi⟩
theorem zQ40.fr {np : Nat} {R : Nat → Nat → Nat} {μ μ1 : zq_Me} {S : List Nat} (h : zQ40 np R μ) (hf : zq_fr S μ μ1) (hs : 6 ∉ S ∧ 41 ∉ S) : zQ40 np R μ1 := ⟨h.1, by rw [hf.a hs.1]; exact h.2.1, fun p i hp hi => by rw [hf.a hs.2]; exact h.2.2 p i hp hi⟩
theorem zQm.fr {np : Nat} {R : Nat → Nat → Nat} {μ μ1 : zq_Me} {S : List Nat} (h : zQm np R μ) (hf : zq_fr S μ μ1) (hs : 50 ∉ S ∧ 66 ∉ S) : zQm np R μ1 := ⟨h.1, by rw [hf.a hs.1]; exact h.2.1, fun p i hp hi => by rw [hf.a hs.2]; exact h.2.2 p i hp hi⟩
theorem zEv.sl {cs sl ck ch cn ne : Nat} {ek eh en : Nat → Nat} {μ μ1 : zq_Me} (h : zEv cs sl ck ch cn ne ek eh en μ) (h1 : μ1.1 cs sl = μ.1 cs sl) (h2 : μ1.1 ck = μ.1 ck) (h3 : μ1.1 ch = μ.1 ch) (h4 : μ1.1 cn = μ.1 cn) : zEv cs sl ck ch cn ne ek eh en μ1 := ⟨h.1, by rw [h1]; exact h.2.1, fun e he => by rw [h2, h3, h4]; exact h.2.2 e he⟩
/-! chances: the weight of a set of events left out; how often is p by itself -/
def zwt (c w : Nat) : Nat → Nat
  | 0 => 1
  | e + 1 => zwt c w e * (if w.testBit e = true then 16 - c else c)
def zos (τ : zTd) (c h p : Nat) : Nat → Nat
  | 0 => 0
  | w + 1 => zos τ c h p w + (if zbi (ynp τ) (yRt τ w) h p = true ∧ p < ynp τ then zwt c w (yne τ) else 0)
def zod (τ : zTd) (c h p : Nat) : Nat := zos τ c h p (2 ^ yne τ)
def zL (n : Nat) : Int64 := Int64.ofNat n
/-! the class -/
def zCa (τ : zTd) (μ : zq_Me) : Prop := zTxt 1 35 3 (yb0 τ) (yn0 τ) μ ∧ zTxt 6 31 4 (yb1 τ) (yn1 τ) μ ∧ μ.1 1 4 = zdn (ztf (zok1 (yb0 τ)) 3 (yn0 τ)) ∧ μ.1 6 4 = zdn (ztf (zok6 (yb1 τ)) 4 (yn1 τ))
def zCb (τ : zTd) (μ : zq_Me) : Prop := zD (ynd τ) (yo1 τ) (yo2 τ) μ ∧ zPb (ynp τ) (ysr τ) (yst τ) (ybd τ) μ
def zCd (τ : zTd) (μ : zq_Me) : Prop := μ.1 0 12 = nI (yld τ) ∧ 1 ≤ yld τ ∧ yld τ ≤ 9
def zCe (τ : zTd) (μ : zq_Me) : Prop := zEv 11 3 12 13 14 (yne τ) (yek τ) (yeh τ) (yen τ) μ ∧ yne τ ≤ 8
def ySn (τ : zTd) (μ : zq_Me) : Prop := zWk33 (ynd τ) (yld τ) (yo1 τ) (yo2 τ) (yek τ) (yeh τ) (yen τ) 0 (yne τ) μ ∧ zQ33 (ynp τ) (yRt τ 0) μ
def zCf (τ : zTd) (μ : zq_Me) : Prop := μ.1 33 11 = -1 ∧ zK33 (ynd τ) (yo1 τ) (yo2 τ) μ ∧ (μ.1 0 14 = 0 ∨ μ.1 0 14 = 1 ∧ ySn τ μ)
def zCg (τ : zTd) (μ : zq_Me) : Prop := μ.1 40 11 = -1 ∧ zK40 (ynd τ) (yo1 τ) (yo2 τ) μ
def zCo (τ : zTd) (μ : zq_Me) : Prop := μ.1 0 16 = -1 ∨ ∃ c h, c ≤ 16 ∧ h < 24 ∧ μ.1 0 15 = nI c ∧ μ.1 0 16 = nI h ∧ ∀ p, p < 8 → μ.2.1 49 p = zL (zod τ c h p)
def zSi (cs sl ch cw cr : Nat) (S : zES) (μ : zq_Me) : Prop := S.1 ≤ 8 ∧ μ.1 cs sl = nI S.1 ∧ ∀ i, i < S.1 → μ.1 ch i = nI (S.2.1 i) ∧ S.2.1 i < 24 ∧ μ.1 cw i = nI (S.2.2.1 i) ∧ S.2.2.1 i < 8 ∧ μ.1 cr i = nI (S.2.2.2 i) ∧ S.2.2.2 i < 8
def zHk (H : zSH) : Prop := ∀ s, s < 4 → H.2.1 s ≤ 2 ∧ H.2.2.1 s ≤ 60
def zHc (H : zSH) (μ : zq_Me) : Prop := (∀ s, s < 4 → (H.1 s = true → μ.1 (25 + 2 * s) 1 = nI (H.2.1 s) ∧ μ.1 (25 + 2 * s) 2 = nI (H.2.2.1 s)) ∧ (H.1 s = false → μ.1 (25 + 2 * s) 2 = -1) ∧ ∀ i, i < 60 → μ.1 (26 + 2 * s) i = H.2.2.2.1 s i) ∧ μ.1 0 13 = H.2.2.2.2
def zHr (H : zSH) (μ : zq_Me) : Prop := (∀ s, s < 4 → μ.1 72 s = (if H.1 s = true then 1 else 0) ∧ (H.1 s = true → μ.1 73 s = nI (H.2.1 s) ∧ μ.1 74 s = nI (H.2.2.1 s)) ∧ ∀ i, i < 60 → μ.1 75 (60 * s + i) = H.2.2.2.1 s i) ∧ μ.1 50 36 = H.2.2.2.2
def zIc (τ : zTd) (S : zES) (H : zSH) (μ : zq_Me) : Prop := zCa τ μ ∧ zCb τ μ ∧ zCd τ μ ∧ zCe τ μ ∧ zCf τ μ ∧ zCg τ μ ∧ zCo τ μ ∧ zSi 20 3 21 22 23 S μ ∧ zHc H μ ∧ zHk H
def zIm (τ : zTd) (S : zES) (H : zSH) (μ : zq_Me) : Prop := (zTm 0 35 (yb0 τ) (yn0 τ) μ ∧ zTm 1 31 (yb1 τ) (yn1 τ) μ) ∧ (μ.1 50 9 = nI (yld τ) ∧ 1 ≤ yld τ ∧ yld τ ≤ 9) ∧ (zEv 50 10 58 59 60 (yne τ) (yek τ) (yeh τ) (yen τ) μ ∧ yne τ ≤ 8) ∧ zSi 50 26 68 69 70 S μ ∧ zHr H μ ∧ zHk H
theorem zCa.fr {τ : zTd} {μ μ1 : zq_Me} {S : List Nat} (h : zCa τ μ) (hf : zq_fr S μ μ1) (hs : 1 ∉ S ∧ 2 ∉ S ∧ 6 ∉ S ∧ 7 ∉ S) : zCa τ μ1 :=
  ⟨h.1.sl (fun i _ => by rw [hf.a hs.1]) (hf.a hs.2.1), h.2.1.sl (fun i _ => by rw [hf.a hs.2.2.1]) (hf.a hs.2.2.2), by rw [hf.a hs.1]; exact h.2.2.1, by rw [hf.a hs.2.2.1]; exact h.2.2.2⟩
theorem zCb.fr {τ : zTd} {μ μ1 : zq_Me} {S : List Nat} (h : zCb τ μ) (hf : zq_fr S μ μ1) (hs : (1 ∉ S ∧ 3 ∉ S ∧ 4 ∉ S) ∧ (6 ∉ S ∧ 8 ∉ S ∧ 9 ∉ S ∧ 10 ∉ S)) : zCb τ μ1 := ⟨h.1.fr hf hs.1, h.2.fr hf hs.2⟩
theorem zCe.fr {τ : zTd} {μ μ1 : zq_Me} {S : List Nat} (h : zCe τ μ) (hf : zq_fr S μ μ1) (hs : 11 ∉ S ∧ 12 ∉ S ∧ 13 ∉ S ∧ 14 ∉ S) : zCe τ μ1 := ⟨h.1.fr hf hs, h.2⟩
theorem ySn.fr {τ : zTd} {μ μ1 : zq_Me} {S : List Nat} (h : ySn τ μ) (hf : zq_fr S μ μ1) (hs : (33 ∉ S ∧ 35 ∉ S ∧ 37 ∉ S ∧ 38 ∉ S) ∧ (6 ∉ S ∧ 34 ∉ S)) : ySn τ μ1 := ⟨h.1.fr hf hs.1, h.2.fr hf hs.2⟩
theorem zCf.fr {τ : zTd} {μ μ1 : zq_Me} {S : List Nat} (h : zCf τ μ) (h0 : μ1.1 0 14 = μ.1 0 14) (hf : zq_fr S μ μ1) (hs : (33 ∉ S ∧ 35 ∉ S ∧ 37 ∉ S ∧ 38 ∉ S) ∧ (6 ∉ S ∧ 34 ∉ S) ∧ 39 ∉ S) : zCf τ μ1 := by
  refine ⟨by rw [hf.a hs.1.1]; exact h.1, h.2.1.fr hf ⟨hs.1.2.2.2, hs.2.2⟩, ?_⟩
  rw [h0]
  exact h.2.2.imp id (fun q => ⟨q.1, q.2.fr hf ⟨hs.1, hs.2.1⟩⟩)
theorem zCg.fr {τ : zTd} {μ μ1 : zq_Me} {S : List Nat} (h : zCg τ μ) (hf : zq_fr S μ μ1) (hs : 40 ∉ S ∧ 45 ∉ S ∧ 46 ∉ S) : zCg τ μ1 := ⟨by rw [hf.a hs.1]; exact h.1, h.2.fr hf hs.2⟩
theorem zCo.fr {τ : zTd} {μ μ1 : zq_Me} (h : zCo τ μ) (h1 : μ1.1 0 15 = μ.1 0 15) (h2 : μ1.1 0 16 = μ.1 0 16) (h3 : μ1.2.1 49 = μ.2.1 49) : zCo τ μ1 := by
  unfold zCo
  rw [h1, h2, h3]
  exact h
theorem zSi.sl {cs sl ch cw cr : Nat} {S : zES} {μ μ1 : zq_Me} (h : zSi cs sl ch cw cr S μ) (h1 : μ1.1 cs sl = μ.1 cs sl) (h2 : μ1.1 ch = μ.1 ch) (h3 : μ1.1 cw = μ.1 cw) (h4 : μ1.1 cr = μ.1 cr) : zSi cs sl ch cw cr S μ1 := by
  unfold zSi
  rw [h1, h2, h3, h4]
  exact h
theorem zHc.sl {H : zSH} {μ μ1 : zq_Me} (h : zHc H μ) (h1 : μ1.1 0 13 = μ.1 0 13) (h2 : ∀ b, 25 ≤ b → b ≤ 32 → μ1.1 b = μ.1 b) : zHc H μ1 :=
  ⟨fun s hs => by rw [h2 (25 + 2 * s) (by omega) (by omega), h2 (26 + 2 * s) (by omega) (by omega)]; exact h.1 s hs, by rw [h1]; exact h.2⟩
/-- the class's state, the parts that another side leaves alone -/
theorem zIc.fr {τ : zTd} {S : zES} {H : zSH} {μ μ1 : zq_Me} {L : List Nat} (h : zIc τ S H μ) (hf : zq_fr L μ μ1) (hs : ∀ b, b < 50 → b ∉ L) : zIc τ S H μ1 := by
  obtain ⟨a, b, d, e, f, g, o, s, k, hk⟩ := h
  have q : ∀ b, b < 50 → μ1.1 b = μ.1 b := fun b hb => hf.a (hs b hb)
  have z : ∀ b, b < 50 → b ∉ L := hs
  refine ⟨a.fr hf ⟨z _ (by decide), z _ (by decide), z _ (by decide), z _ (by decide)⟩, b.fr hf ⟨⟨z _ (by decide), z _ (by decide), z _ (by decide)⟩, z _ (by decide), z _ (by decide), z _ (by decide), z _ (by decide)⟩, ?_, e.fr hf ⟨z _ (by decide), z _ (by decide), z _ (by decide), z _ (by decide)⟩, f.fr (by rw [q 0 (by decide)]) hf ⟨⟨z _ (by decide), z _ (by decide), z _ (by decide), z _ (by decide)⟩, ⟨z _ (by decide), z _ (by decide)⟩, z _ (by decide)⟩, g.fr hf ⟨z _ (by decide), z _ (by decide), z _ (by decide)⟩, o.fr (by rw [q 0 (by decide)]) (by rw [q 0 (by decide)]) (hf.l (z 49 (by decide))), s.sl (by rw [q 20 (by decide)]) (q _ (by decide)) (q _ (by decide)) (q _ (by decide)), k.sl (by rw [q 0 (by decide)]) (fun b _ h => q b (by omega)), hk⟩
  exact ⟨by rw [q 0 (by decide)]; exact d.1, d.2⟩
/-- the trial week has run: nothing else is changed -/
theorem zIc.tr {τ : zTd} {S : zES} {H : zSH} {μ μ1 : zq_Me} (h : zIc τ S H μ) (hf : zq_fr [5, 15, 16, 17, 18, 19, 40, 41, 42, 43, 44, 45, 46, 47, 48] μ μ1) (hg : zCg τ μ1) : zIc τ S H μ1 := by
  obtain ⟨a, b, d, e, f, g, o, s, k, hk⟩ := h
  have q : ∀ b, b ∉ [5, 15, 16, 17, 18, 19, 40, 41, 42, 43, 44, 45, 46, 47, 48] → μ1.1 b = μ.1 b := fun b hb => hf.a hb
  exact ⟨a.fr hf (by decide), b.fr hf (by decide), ⟨by rw [q 0 (by decide)]; exact d.1, d.2⟩, e.fr hf (by decide), f.fr (by rw [q 0 (by decide)]) hf (by decide), hg, o.fr (by rw [q 0 (by decide)]) (by rw [q 0 (by decide)]) (hf.l (by decide)), s.sl (by rw [q 20 (by decide)]) (q _ (by decide)) (q _ (by decide)) (q _ (by decide)), k.sl (by rw [q 0 (by decide)]) (fun b h1 h2 => q b (by simp; omega)), hk⟩
/-- the reference's state: its told part is kept where its own working cells alone are changed -/
theorem zIm.kp {τ : zTd} {S : zES} {H : zSH} {μ μ1 : zq_Me} {L : List Nat} (h : zIm τ S H μ) (hf : zq_fr L μ μ1) (hs : ∀ b, b ∈ [51, 52, 58, 59, 60, 68, 69, 70, 72, 73, 74, 75] → b ∉ L) (hi : ∀ i, i ∈ [9, 10, 26, 36] → μ1.1 50 i = μ.1 50 i) : zIm τ S H μ1 := by
  obtain ⟨a, b, c, d, e, k⟩ := h
  have q : ∀ b, b ∈ [51, 52, 58, 59, 60, 68, 69, 70, 72, 73, 74, 75] → μ1.1 b = μ.1 b := fun b hb => hf.a (hs b hb)
  refine ⟨⟨a.1.fr hf ⟨hs _ (by decide), hs _ (by decide)⟩, a.2.fr hf ⟨hs _ (by decide), hs _ (by decide)⟩⟩, ⟨by rw [hi 9 (by decide)]; exact b.1, b.2⟩, ⟨c.1.sl (hi 10 (by decide)) (q _ (by decide)) (q _ (by decide)) (q _ (by decide)), c.2⟩, d.sl (hi 26 (by decide)) (q _ (by decide)) (q _ (by decide)) (q _ (by decide)), ⟨fun s hs => ?_, by rw [hi 36 (by decide)]; exact e.2⟩, k⟩
  rw [q 72 (by decide), q 73 (by decide), q 74 (by decide), q 75 (by decide)]
  exact e.1 s hs
theorem zIm.fr {τ : zTd} {S : zES} {H : zSH} {μ μ1 : zq_Me} {L : List Nat} (h : zIm τ S H μ) (hf : zq_fr L μ μ1) (hs : ∀ b, b ∈ L → b < 50) : zIm τ S H μ1 :=
  h.kp hf (fun b hb hl => by have := hs b hl; simp at hb; omega) (fun i _ => by rw [hf.a (b := 50) (fun hl => by have := hs 50 hl; omega)])
def zSC : List Nat := [0, 1, 2, 3, 4, 5, 6, 7, 8, 9, 10, 11, 12, 13, 14, 15, 16, 17, 18, 19, 20, 21, 22, 23, 24, 25, 26, 27, 28, 29, 30, 31, 32, 33, 34, 35, 36, 37, 38, 39, 40, 41, 42, 43, 44, 45, 46, 47, 48, 49]
def zSM : List Nat := [50, 51, 52, 53, 54, 55, 56, 57, 58, 59, 60, 61, 62, 63, 64, 65, 66, 67, 68, 69, 70, 71, 72, 73, 74, 75, 76]
/-- a call's answer, and the state behind it -/
def zRc (r : Value) (τ : zTd) (S : zES) (H : zSH) (μ : zq_Me) : zq_Post := fun v μ' => v = some r ∧ zIc τ S H μ' ∧ zq_fr zSC μ μ'
def zRm' (r : Value) (τ : zTd) (S : zES) (H : zSH) (μ : zq_Me) : zq_Post := fun v μ' => v = some r ∧ zIm τ S H μ' ∧ zq_fr zSM μ μ'
/-- small numbers among the ints -/
theorem yix {v : Int32} {m : Nat} (hm : m < 2 ^ 31) (h : 0 ≤ v ∧ v ≤ nI m) : ∃ n, n ≤ m ∧ v = nI n := zn_of hm h.1 h.2
theorem ypx {v : Int32} {m : Nat} (hm : m < 2 ^ 31) (h : 0 ≤ v ∧ v ≤ nI m - nI 1) : ∃ n, n < m ∧ v = nI n := by
  rw [zdn_sub] at h
  cases m with
  | zero => exact absurd (Int32.le_trans h.1 h.2) (by decide)
  | succ m =>
    obtain ⟨n, a, b⟩ := zn_of (m := m) (by omega) h.1 h.2
    exact ⟨n, by omega, b⟩
theorem zP33.of {np : Nat} {srt stt bed : Nat → Nat} {μ : zq_Me} (h : zPb np srt stt bed μ) (hw : μ.1 33 11 = -1) : zP33 np srt stt bed μ := by
  refine ⟨h.1, h.2.1, fun p hp => ?_⟩
  have h9 := h.1
  rw [if_neg (fun q => by rw [hw] at q; exact zn_neg1 (by omega) q.1), if_neg (fun q => by rw [hw] at q; exact zn_neg1 (by omega) q.1)]
  exact h.2.2 p hp
set_option maxRecDepth 100000 in
set_option maxHeartbeats 4000000 in
theorem zs_changed (μ0 : zq_Me) : zq_Wp zn_X8_changed 0 [(0, .ref 0)] [] μ0 (fun v μ => v = none ∧ zq_fr [0] μ0 μ ∧ μ.1 0 14 = 0 ∧ μ.1 0 16 = -1 ∧ ∀ i, i ≠ 14 → i ≠ 16 → μ.1 0 i = μ0.1 0 i) := by
  refine zq_go zt_X8_changed 6 [(nI 0) = 0 ∨ (nI 0) = 1] 10 [(0, .ref 0)] [] (zq_u1 (zq_u1 μ0 0 14 (nI 0)) 0 16 (-1)) rfl ⟨Or.inl rfl, trivial⟩ ?_
  exact zq_retn zt_X8_changed rfl rfl ⟨rfl, (zq_fr.rf.u1 (by simp)).u1 (by simp), by rw [zq_u1_o2 (by decide), zq_u1_s]; rfl, zq_u1_s, fun i h1 h2 => by rw [zq_u1_o2 h2, zq_u1_o2 h1]⟩
set_option maxRecDepth 100000 in
set_option maxHeartbeats 4000000 in
theorem zs_forget33 (μ0 : zq_Me) : zq_Wp zn_X7_forgetSteps 0 [(0, .ref 33)] [] μ0 (fun v μ => v = none ∧ zq_fr [39] μ0 μ ∧ ∀ j, j < 9 → μ.1 39 j = -1) := by
  refine zq_go zt_X7_forgetSteps 3 [] 5 [(0, .ref 33)] [.int (-1), .ref 39] μ0 rfl trivial ?_
  refine zq_call zt_X7_forgetSteps [.ref 39, .int (-1)] [] (zs_fill39 (-1) μ0) rfl rfl ?_
  rintro _ μ1 ⟨rfl, f1, a1⟩
  exact zq_retn zt_X7_forgetSteps rfl rfl ⟨rfl, f1, a1⟩
set_option maxRecDepth 100000 in
set_option maxHeartbeats 4000000 in
theorem zs_forget40 (μ0 : zq_Me) : zq_Wp zn_X7_forgetSteps 0 [(0, .ref 40)] [] μ0 (fun v μ => v = none ∧ zq_fr [46] μ0 μ ∧ ∀ j, j < 9 → μ.1 46 j = -1) := by
  refine zq_go zt_X7_forgetSteps 3 [] 5 [(0, .ref 40)] [.int (-1), .ref 46] μ0 rfl trivial ?_
  refine zq_call zt_X7_forgetSteps [.ref 46, .int (-1)] [] (zs_fill46 (-1) μ0) rfl rfl ?_
  rintro _ μ1 ⟨rfl, f1, a1⟩
  exact zq_retn zt_X7_forgetSteps rfl rfl ⟨rfl, f1, a1⟩
set_option maxRecDepth 100000 in
set_option maxHeartbeats 4000000 in
theorem zs_textChanged (μ0 : zq_Me) : zq_Wp zn_X8_textChanged 0 [(0, .ref 0)] [] μ0 (fun v μ => v = none ∧ zq_fr [0, 39, 46] μ0 μ ∧ μ.1 0 14 = 0 ∧ μ.1 0 16 = -1 ∧ (∀ i, i ≠ 14 → i ≠ 16 → μ.1 0 i = μ0.1 0 i) ∧ ∀ j, j < 9 → μ.1 39 j = -1 ∧ μ.1 46 j = -1) := by
  refine zq_go zt_X8_textChanged 2 [] 4 [(0, .ref 0)] [.ref 33] μ0 rfl trivial ?_
  refine zq_call zt_X8_textChanged [.ref 33] [] (zs_forget33 μ0) rfl rfl ?_
  rintro _ μ1 ⟨rfl, f1, a1⟩
  refine zq_go zt_X8_textChanged 2 [] 11 [(0, .ref 0)] [.ref 40] μ1 rfl trivial ?_
  refine zq_call zt_X8_textChanged [.ref 40] [] (zs_forget40 μ1) rfl rfl ?_
  rintro _ μ2 ⟨rfl, f2, a2⟩
  refine zq_go zt_X8_textChanged 1 [] 15 [(0, .ref 0)] [.ref 0] μ2 rfl trivial ?_
  refine zq_call zt_X8_textChanged [.ref 0] [] (zs_changed μ2) rfl rfl ?_
  rintro _ μ3 ⟨rfl, f3, a3, a4, a5⟩
  exact zq_retn zt_X8_textChanged rfl rfl ⟨rfl, ((f1.wk (by simp)).tr (f2.wk (by simp))).tr (f3.wk (by simp)), a3, a4, fun i h1 h2 => by rw [a5 i h1 h2, f2.a (b := 0) (by decide), f1.a (b := 0) (by decide)], fun j hj => ⟨by rw [f3.a (b := 39) (by decide), f2.a (b := 39) (by decide)]; exact a1 j hj, by rw [f3.a (b := 46) (by decide)]; exact a2 j hj⟩⟩
set_option maxRecDepth 100000 in
set_option maxHeartbeats 4000000 in
theorem zs_isPerson (v : Int32) {τ : zTd} {S : zES} {H : zSH} {μ : zq_Me} (hC : zIc τ S H μ) : zq_Wp zn_X8_isPerson 0 [(0, .ref 0), (1, .int v)] [] μ (zq_pi (zb (0 ≤ v ∧ v ≤ nI (ynp τ) - nI 1)) μ) := by
  refine zq_go zt_X8_isPerson 7 [] 11 [(0, .ref 0), (1, .int v)] [.int ((μ.1 6 5) - (nI 1)), .int (nI 0), .int v] μ rfl trivial ?_
  rw [hC.2.1.2.2.1]
  refine zq_call zt_X8_isPerson [.int v, .int (nI 0), .int ((nI (ynp τ)) - (nI 1))] [] (zs_within v (nI 0) (nI (ynp τ) - nI 1) μ) rfl rfl ?_
  rintro _ _ ⟨rfl, rfl⟩
  exact zq_retz zt_X8_isPerson rfl (zb_01 _) (⟨rfl, rfl⟩)
set_option maxRecDepth 100000 in
set_option maxHeartbeats 4000000 in
theorem zs_weekAsTold {τ : zTd} {S : zES} {H : zSH} {μ0 : zq_Me} (hC0 : zIc τ S H μ0) : zq_Wp zn_X8_weekAsTold 0 [(0, .ref 0)] [] μ0 (fun v μ => v = some (.ref 33) ∧ zIc τ S H μ ∧ zq_fr [0, 5, 33, 34, 35, 36, 37, 38, 39] μ0 μ ∧ ySn τ μ) := by
  have hC9 := hC0
  obtain ⟨a, b, d, e, f, g, o, s, k, hk⟩ := hC9
  refine zq_go zt_X8_weekAsTold 3 [] (if ¬ (μ0.1 0 14) = 0 then 28 else 7) [(0, .ref 0)] [] μ0 rfl trivial ?_
  refine zq_ite (fun h3 => ?_) (fun h3 => ?_)
  · have hs : ySn τ μ0 := (f.2.2.resolve_left h3).2
    refine zq_go zt_X8_weekAsTold 2 [] 32 [(0, .ref 0)] [.ref 33] μ0 rfl trivial ?_
    exact zq_retn zt_X8_weekAsTold rfl rfl ⟨rfl, hC0, zq_fr.rf, hs⟩
  · refine zq_go zt_X8_weekAsTold 7 [] 20 [(0, .ref 0)] [.int (μ0.1 0 12), .int (nI 0), .ref 11, .ref 33] μ0 rfl trivial ?_
    rw [hC0.2.2.1.1]
    refine zq_call zt_X8_weekAsTold [.ref 33, .ref 11, .int (nI 0), .int (nI (yld τ))] [] (zs_rw33_11 (wo := 0) d.2.2 (by decide) (zsp_8 (Or.inl e.2)) b.1 e.1 (zP33.of b.2 f.1) f.2.1) rfl rfl ?_
    rintro _ μ1 ⟨rfl, f1, s1, k1, w1, r1⟩
    refine zq_go zt_X8_weekAsTold 5 [(nI 1) = 0 ∨ (nI 1) = 1] 32 [(0, .ref 0)] [.ref 33] (zq_u1 μ1 0 14 (nI 1)) rfl ⟨Or.inr rfl, trivial⟩ ?_
    obtain ⟨μ2, hμ2⟩ : ∃ k9 : zq_Me, k9 = (zq_u1 μ1 0 14 (nI 1)) := ⟨_, rfl⟩
    rw [← hμ2]
    have f2 : zq_fr [0] μ1 μ2 := by rw [hμ2]; exact zq_fr.rf.u1 (by simp)
    have f9 := (f1.wk (T := [0, 5, 33, 34, 35, 36, 37, 38, 39]) (by simp +contextual)).tr (f2.wk (by simp))
    have hQ : zQ33 (ynp τ) (yRt τ 0) μ2 := ⟨b.2.1, by rw [f9.a (b := 6) (by decide)]; exact b.2.2.1, fun p h hp hh => ⟨by rw [f2.a (b := 34) (by decide)]; exact r1 p h hp hh, yR_lt e.1.n (fun q hq => ⟨(yp_lt hq).1, (yp_lt hq).2.2⟩) hp hh⟩⟩
    have hs : ySn τ μ2 := ⟨w1.fr f2 (by decide), hQ⟩
    have s2 : ∀ i, i ≠ 14 → μ2.1 0 i = μ0.1 0 i := fun i hi => by rw [hμ2, zq_u1_o2 hi, f1.a (b := 0) (by decide)]
    have hf : zCf τ μ2 := ⟨by rw [f2.a (b := 33) (by decide), s1 11 (by decide) (by decide)]; exact f.1, k1.fr f2 (by decide), Or.inr ⟨by rw [hμ2, zq_u1_s]; rfl, hs⟩⟩
    have hI : zIc τ S H μ2 := ⟨a.fr f9 (by decide), b.fr f9 (by decide), ⟨by rw [s2 12 (by decide)]; exact d.1, d.2⟩, e.fr f9 (by decide), hf, g.fr f9 (by decide), o.fr (s2 15 (by decide)) (s2 16 (by decide)) (f9.l (by decide)), s.sl (by rw [f9.a (b := 20) (by decide)]) (f9.a (by decide)) (f9.a (by decide)) (f9.a (by decide)), k.sl (s2 13 (by decide)) (fun b h1 h2 => f9.a (by simp; omega)), hk⟩
    exact zq_retn zt_X8_weekAsTold rfl rfl ⟨rfl, hI, f9, hs⟩
theorem zRd.m {τ : zTd} {S : zES} {H : zSH} {μ0 μ : zq_Me} (hM : zIm τ S H μ0) (h : zRd (yb0 τ) (yb1 τ) (yn0 τ) (yn1 τ) μ0 μ) : zIm τ S H μ ∧ zq_fr zSM μ0 μ ∧ zDm (ynd τ) (yo1 τ) (yo2 τ) μ ∧ zPm (ynp τ) (ysr τ) (yst τ) (ybd τ) μ := by
  obtain ⟨f1, s1, d1, p1⟩ := h
  exact ⟨hM.kp f1 (by decide) (fun i hi => s1 i (by simp at hi; omega) (by simp at hi; omega)), f1.wk (by simp +contextual [zSM]), d1, p1⟩
set_option maxRecDepth 100000 in
set_option maxHeartbeats 4000000 in
theorem zs_isPersonm (v : Int32) {τ : zTd} {S : zES} {H : zSH} {μ0 : zq_Me} (hM : zIm τ S H μ0) : zq_Wp zn_X9_isPerson 0 [(0, .ref 50), (1, .int v)] [] μ0 (fun r μ => r = some (.int (zb (0 ≤ v ∧ v ≤ nI (ynp τ) - nI 1))) ∧ zIm τ S H μ ∧ zq_fr zSM μ0 μ ∧ zDm (ynd τ) (yo1 τ) (yo2 τ) μ ∧ zPm (ynp τ) (ysr τ) (yst τ) (ybd τ) μ) := by
  refine zq_go zt_X9_isPerson 1 [] 1 [(0, .ref 50), (1, .int v)] [.ref 50] μ0 rfl trivial ?_
  refine zq_call zt_X9_isPerson [.ref 50] [] (zs_reads hM.1.1 hM.1.2) rfl rfl ?_
  rintro _ μ1 ⟨rfl, hR⟩
  obtain ⟨m1, f1, d1, p1⟩ := hR.m hM
  refine zq_go zt_X9_isPerson 6 [] 12 [(0, .ref 50), (1, .int v)] [.int ((μ1.1 50 5) - (nI 1)), .int (nI 0), .int v] μ1 rfl trivial ?_
  rw [p1.2.1]
  refine zq_call zt_X9_isPerson [.int v, .int (nI 0), .int ((nI (ynp τ)) - (nI 1))] [] (zs_in v (nI 0) (nI (ynp τ) - nI 1) μ1) rfl rfl ?_
  rintro _ _ ⟨rfl, rfl⟩
  exact zq_retz zt_X9_isPerson rfl (zb_01 _) (⟨rfl, m1, f1, d1, p1⟩)
set_option maxRecDepth 100000 in
set_option maxHeartbeats 4000000 in
theorem zs_isDoorm (v : Int32) {τ : zTd} {S : zES} {H : zSH} {μ0 : zq_Me} (hM : zIm τ S H μ0) : zq_Wp zn_X9_isDoor 0 [(0, .ref 50), (1, .int v)] [] μ0 (fun r μ => r = some (.int (zb (0 ≤ v ∧ v ≤ nI (ynd τ) - nI 1))) ∧ zIm τ S H μ ∧ zq_fr zSM μ0 μ ∧ zDm (ynd τ) (yo1 τ) (yo2 τ) μ ∧ zPm (ynp τ) (ysr τ) (yst τ) (ybd τ) μ) := by
  refine zq_go zt_X9_isDoor 1 [] 1 [(0, .ref 50), (1, .int v)] [.ref 50] μ0 rfl trivial ?_
  refine zq_call zt_X9_isDoor [.ref 50] [] (zs_reads hM.1.1 hM.1.2) rfl rfl ?_
  rintro _ μ1 ⟨rfl, hR⟩
  obtain ⟨m1, f1, d1, p1⟩ := hR.m hM
  refine zq_go zt_X9_isDoor 6 [] 12 [(0, .ref 50), (1, .int v)] [.int ((μ1.1 50 2) - (nI 1)), .int (nI 0), .int v] μ1 rfl trivial ?_
  rw [d1.2.1]
  refine zq_call zt_X9_isDoor [.int v, .int (nI 0), .int ((nI (ynd τ)) - (nI 1))] [] (zs_in v (nI 0) (nI (ynd τ) - nI 1) μ1) rfl rfl ?_
  rintro _ _ ⟨rfl, rfl⟩
  exact zq_retz zt_X9_isDoor rfl (zb_01 _) (⟨rfl, m1, f1, d1, p1⟩)
/-- what the reference has laid for a run -/
def zNw (τ : zTd) (μ : zq_Me) : Prop := zDm (ynd τ) (yo1 τ) (yo2 τ) μ ∧ zPm (ynp τ) (ysr τ) (yst τ) (ybd τ) μ ∧ μ.1 50 14 = nI (yld τ) ∧ zEv 50 15 61 62 63 (yne τ) (yek τ) (yeh τ) (yen τ) μ ∧ μ.1 50 19 = nI 0
set_option maxRecDepth 100000 in
set_option maxHeartbeats 4000000 in
theorem zs_asTold_l {Q : zq_Post} {τ : zTd} {μ0 : zq_Me} (hE0 : (zEv 50 10 58 59 60 (yne τ) (yek τ) (yeh τ) (yen τ) μ0 ∧ yne τ ≤ 8)) (kk : ∀ μ : zq_Me, (zq_fr [61, 62, 63] μ0 μ ∧ ∀ i, i < yne τ → μ.1 61 i = nI (yek τ i) ∧ μ.1 62 i = nI (yeh τ i) ∧ μ.1 63 i = nI (yen τ i)) → zq_Wp zn_X9_asTold 72 [(0, .ref 50)] [] μ Q) : ∀ (j e : Nat) (μ : zq_Me), e + j = yne τ → (zq_fr [61, 62, 63] μ0 μ ∧ ∀ i, i < e → μ.1 61 i = nI (yek τ i) ∧ μ.1 62 i = nI (yeh τ i) ∧ μ.1 63 i = nI (yen τ i)) → zq_Wp zn_X9_asTold 22 [(0, .ref 50), (1, .int (nI e))] [] μ Q := by
  intro j
  induction j with
  | zero =>
    intro e μ hij hI
    have hE : (zEv 50 10 58 59 60 (yne τ) (yek τ) (yeh τ) (yen τ) μ ∧ yne τ ≤ 8) := ⟨hE0.1.sl (by rw [hI.1.a (b := 50) (by decide)]) (hI.1.a (by decide)) (hI.1.a (by decide)) (hI.1.a (by decide)), hE0.2⟩
    have hn8 := hE.2
    have he9 : e = yne τ := by omega
    rw [he9] at hI
    refine zq_go zt_X9_asTold 4 [] (if (μ.1 50 10) ≤ (nI e) then 72 else 30) [(0, .ref 50), (1, .int (nI e))] [] μ rfl trivial ?_
    rw [hE.1.2.1]
    rw [if_pos (by rw [zn_le (by omega) (by omega)]; omega)]
    exact zq_drp [0] [(0, .ref 50)] rfl (kk μ hI)
  | succ j ih =>
    intro e μ hij hI
    have hE : (zEv 50 10 58 59 60 (yne τ) (yek τ) (yeh τ) (yen τ) μ ∧ yne τ ≤ 8) := ⟨hE0.1.sl (by rw [hI.1.a (b := 50) (by decide)]) (hI.1.a (by decide)) (hI.1.a (by decide)) (hI.1.a (by decide)), hE0.2⟩
    have hn8 := hE.2
    obtain ⟨e1, e2, e3, -⟩ := hE.1.2.2 e (by omega)
    refine zq_go zt_X9_asTold 4 [] (if (μ.1 50 10) ≤ (nI e) then 72 else 30) [(0, .ref 50), (1, .int (nI e))] [] μ rfl trivial ?_
    rw [hE.1.2.1]
    rw [if_neg (by rw [zn_le (by omega) (by omega)]; omega)]
    refine zq_go zt_X9_asTold 26 [vp_in (nI e) 9, vp_in (nI e) 9, vp_in (nI e) 9, vp_in (nI e) 9, vp_in (nI e) 9, vp_in (nI e) 9] 22 [(0, .ref 50), (1, .int ((nI e) + (nI 1)))] [] (zq_u1 (zq_u1 (zq_u1 μ 61 ((nI e).toNatClampNeg) (μ.1 58 ((nI e).toNatClampNeg))) 62 ((nI e).toNatClampNeg) (μ.1 59 ((nI e).toNatClampNeg))) 63 ((nI e).toNatClampNeg) (μ.1 60 ((nI e).toNatClampNeg))) rfl ⟨zn_in (k := e) rfl (by omega) (by decide), ⟨zn_in (k := e) rfl (by omega) (by decide), ⟨zn_in (k := e) rfl (by omega) (by decide), ⟨zn_in (k := e) rfl (by omega) (by decide), ⟨zn_in (k := e) rfl (by omega) (by decide), ⟨zn_in (k := e) rfl (by omega) (by decide), trivial⟩⟩⟩⟩⟩⟩ ?_
    rw [zn_add e 1, zn_cl (n := e) (by omega), e1, e2, e3]
    refine ih (e + 1) _ (by omega) ⟨((hI.1.u1 (by simp)).u1 (by simp)).u1 (by simp), fun i hi => ?_⟩
    by_cases h8 : i = e
    · subst h8; exact ⟨by rw [zq_u1_ne (by decide), zq_u1_ne (by decide), zq_u1_s], by rw [zq_u1_ne (by decide), zq_u1_s], by rw [zq_u1_s]⟩
    · obtain ⟨q1, q2, q3⟩ := hI.2 i (by omega)
      exact ⟨by rw [zq_u1_ne (by decide), zq_u1_ne (by decide), zq_u1_o2 h8]; exact q1, by rw [zq_u1_ne (by decide), zq_u1_o2 h8, zq_u1_ne (by decide)]; exact q2, by rw [zq_u1_o2 h8, zq_u1_ne (by decide), zq_u1_ne (by decide)]; exact q3⟩
set_option maxRecDepth 100000 in
set_option maxHeartbeats 4000000 in
theorem zs_asTold {τ : zTd} {S : zES} {H : zSH} {μ0 : zq_Me} (hM : zIm τ S H μ0) : zq_Wp zn_X9_asTold 0 [(0, .ref 50)] [] μ0 (fun r μ => r = none ∧ zIm τ S H μ ∧ zq_fr zSM μ0 μ ∧ zNw τ μ) := by
  refine zq_go zt_X9_asTold 1 [] 1 [(0, .ref 50)] [.ref 50] μ0 rfl trivial ?_
  refine zq_call zt_X9_asTold [.ref 50] [] (zs_reads hM.1.1 hM.1.2) rfl rfl ?_
  rintro _ μ1 ⟨rfl, hR⟩
  obtain ⟨m1, f1, d1, p1⟩ := hR.m hM
  refine zq_go zt_X9_asTold 10 [] 22 [(0, .ref 50), (1, .int (nI 0))] [] (zq_u1 (zq_u1 μ1 50 14 (μ1.1 50 9)) 50 15 (μ1.1 50 10)) rfl trivial ?_
  rw [m1.2.1.1, m1.2.2.1.1.2.1]
  obtain ⟨μ2, hμ2⟩ : ∃ k9 : zq_Me, k9 = (zq_u1 (zq_u1 μ1 50 14 (nI (yld τ))) 50 15 (nI (yne τ))) := ⟨_, rfl⟩
  rw [← hμ2]
  have f2 : zq_fr [50] μ1 μ2 := by rw [hμ2]; exact (zq_fr.rf.u1 (by simp)).u1 (by simp)
  have s2 : ∀ i, i ≠ 14 → i ≠ 15 → μ2.1 50 i = μ1.1 50 i := fun i h1 h2 => by rw [hμ2, zq_u1_o2 h2, zq_u1_o2 h1]
  have l2 : μ2.1 50 14 = nI (yld τ) := by rw [hμ2, zq_u1_o2 (by decide), zq_u1_s]
  have n2 : μ2.1 50 15 = nI (yne τ) := by rw [hμ2, zq_u1_s]
  have m2 : zIm τ S H μ2 := m1.kp f2 (by decide) (fun i hi => s2 i (by simp at hi; omega) (by simp at hi; omega))
  refine zs_asTold_l m2.2.2.1 (fun μ3 hI => ?_) (yne τ) 0 μ2 (by omega) ⟨zq_fr.rf, fun i hi => absurd hi (Nat.not_lt_zero i)⟩
  refine zq_go zt_X9_asTold 3 [] 77 [(0, .ref 50)] [] (zq_u1 μ3 50 19 (nI 0)) rfl trivial ?_
  obtain ⟨μ4, hμ4⟩ : ∃ k9 : zq_Me, k9 = (zq_u1 μ3 50 19 (nI 0)) := ⟨_, rfl⟩
  rw [← hμ4]
  have f4 : zq_fr [50] μ3 μ4 := by rw [hμ4]; exact zq_fr.rf.u1 (by simp)
  have s4 : ∀ i, i ≠ 19 → μ4.1 50 i = μ2.1 50 i := fun i h1 => by rw [hμ4, zq_u1_o2 h1, hI.1.a (b := 50) (by decide)]
  have f9 : zq_fr [50, 61, 62, 63] μ1 μ4 := ((f2.wk (by simp)).tr (hI.1.wk (by simp +contextual))).tr (f4.wk (by simp))
  have m4 : zIm τ S H μ4 := m1.kp f9 (by decide) (fun i hi => by rw [s4 i (by simp at hi; omega), s2 i (by simp at hi; omega) (by simp at hi; omega)])
  have hN : zNw τ μ4 := by
    refine ⟨⟨d1.1, by rw [s4 2 (by decide), s2 2 (by decide) (by decide)]; exact d1.2.1, fun d hd => by rw [f9.a (b := 53) (by decide)]; exact d1.2.2.1 d hd, fun d hd => by rw [f9.a (b := 54) (by decide)]; exact d1.2.2.2 d hd⟩, p1.sl (by rw [s4 5 (by decide), s2 5 (by decide) (by decide)]) (f9.a (by decide)) (f9.a (by decide)) (f9.a (by decide)), by rw [s4 14 (by decide)]; exact l2, ⟨by have := m1.2.2.1.2; omega, by rw [s4 15 (by decide)]; exact n2, fun e he => ?_⟩, by rw [hμ4, zq_u1_s]⟩
    rw [f4.a (b := 61) (by decide), f4.a (b := 62) (by decide), f4.a (b := 63) (by decide)]
    obtain ⟨q1, q2, q3⟩ := hI.2 e he
    exact ⟨q1, q2, q3, (m1.2.2.1.1.2.2 e he).2.2.2⟩
  exact zq_retn zt_X9_asTold rfl rfl ⟨rfl, m4, f1.tr (f9.wk (by simp +contextual [zSM])), hN⟩
set_option maxRecDepth 100000 in
set_option maxHeartbeats 4000000 in
theorem zs_runsTold {τ : zTd} {S : zES} {H : zSH} {μ0 : zq_Me} (hM : zIm τ S H μ0) : zq_Wp zn_X9_runsTold 0 [(0, .ref 50)] [] μ0 (fun r μ => r = none ∧ zIm τ S H μ ∧ zq_fr zSM μ0 μ ∧ zNw τ μ ∧ zRm (ynd τ) (ynp τ) (yld τ) (yo1 τ) (yo2 τ) (ysr τ) (yst τ) (ybd τ) (yek τ) (yeh τ) (yen τ) 0 (yne τ) μ ∧ zQm (ynp τ) (yRt τ 0) μ) := by
  refine zq_go zt_X9_runsTold 1 [] 1 [(0, .ref 50)] [.ref 50] μ0 rfl trivial ?_
  refine zq_call zt_X9_runsTold [.ref 50] [] (zs_asTold hM) rfl rfl ?_
  rintro _ μ1 ⟨rfl, m1, f1, n1⟩
  refine zq_go zt_X9_runsTold 1 [] 5 [(0, .ref 50)] [.ref 50] μ1 rfl trivial ?_
  refine zq_call zt_X9_runsTold [.ref 50] [] (zs_runs n1.1 (by decide) n1.2.2.2.1 n1.2.2.2.2 m1.2.1.2.2 n1.2.1 n1.2.2.1) rfl rfl ?_
  rintro _ μ2 ⟨rfl, f2, s2, r2⟩
  have m2 : zIm τ S H μ2 := m1.kp f2 (by decide) (fun i hi => s2 i (by simp at hi; omega) (by simp at hi; omega))
  have n2 : zNw τ μ2 := ⟨⟨n1.1.1, by rw [s2 2 (by decide) (by decide)]; exact n1.1.2.1, fun d hd => by rw [f2.a (b := 53) (by decide)]; exact n1.1.2.2.1 d hd, fun d hd => by rw [f2.a (b := 54) (by decide)]; exact n1.1.2.2.2 d hd⟩, n1.2.1.sl (s2 5 (by decide) (by decide)) (f2.a (by decide)) (f2.a (by decide)) (f2.a (by decide)), by rw [s2 14 (by decide) (by decide)]; exact n1.2.2.1, n1.2.2.2.1.sl (s2 15 (by decide) (by decide)) (f2.a (by decide)) (f2.a (by decide)) (f2.a (by decide)), by rw [s2 19 (by decide) (by decide)]; exact n1.2.2.2.2⟩
  exact zq_retn zt_X9_runsTold rfl rfl ⟨rfl, m2, f1.tr (f2.wk (by simp +contextual [zSM])), n2, r2, n2.2.1.1, n2.2.1.2.1, fun p h hp hh => ⟨r2.1 p h hp hh, yR_lt n1.2.2.2.1.n (fun q hq => ⟨(yp_lt hq).1, (yp_lt hq).2.2⟩) hp hh⟩⟩
