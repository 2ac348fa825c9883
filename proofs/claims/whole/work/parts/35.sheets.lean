/-! ===== sheets ===== -/
def znr (f : Nat) (v : Int32) : Int32 := if f = 0 then v.toInt8.toInt32 else if f = 1 then v.toInt16.toInt32 else v
def yhf (H : zSH) (n : Int32) : zSH := (H.1, H.2.1, H.2.2.1, H.2.2.2.1, n)
def yhn (H : zSH) (s f n : Nat) : zSH := (fun a => if a = s then true else H.1 a, fun a => if a = s then f else H.2.1 a, fun a => if a = s then n else H.2.2.1 a, fun a => if a = s then (fun _ => 0) else H.2.2.2.1 a, H.2.2.2.2)
def yhl (H : zSH) (s : Nat) : zSH := (fun a => if a = s then false else H.1 a, H.2.1, H.2.2.1, H.2.2.2.1, H.2.2.2.2)
def yhi (H : zSH) (s : Nat) (f : Nat → Int32) : zSH := (H.1, H.2.1, H.2.2.1, fun a => if a = s then f else H.2.2.2.1 a, H.2.2.2.2)
def yho (H H' : zSH) (s : Nat) : Prop := ∀ a, a ≠ s → H'.1 a = H.1 a ∧ H'.2.1 a = H.2.1 a ∧ H'.2.2.1 a = H.2.2.1 a ∧ H'.2.2.2.1 a = H.2.2.2.1 a
theorem zHc.one {H H' : zSH} {μ μ1 : zq_Me} (h : zHc H μ) {s : Nat} (h13 : μ1.1 0 13 = H'.2.2.2.2) (ho : ∀ a, a < 4 → a ≠ s → μ1.1 (25 + 2 * a) = μ.1 (25 + 2 * a) ∧ μ1.1 (26 + 2 * a) = μ.1 (26 + 2 * a)) (hH : yho H H' s) (hn : (H'.1 s = true → μ1.1 (25 + 2 * s) 1 = nI (H'.2.1 s) ∧ μ1.1 (25 + 2 * s) 2 = nI (H'.2.2.1 s)) ∧ (H'.1 s = false → μ1.1 (25 + 2 * s) 2 = -1) ∧ ∀ i, i < 60 → μ1.1 (26 + 2 * s) i = H'.2.2.2.1 s i) : zHc H' μ1 := by
  refine ⟨fun a ha => ?_, h13⟩
  by_cases q : a = s
  · subst q; exact hn
  · obtain ⟨p1, p2, p3, p4⟩ := hH a q
    obtain ⟨o1, o2⟩ := ho a ha q
    rw [p1, p2, p3, p4, o1, o2]
    exact h.1 a ha
theorem zHr.one {H H' : zSH} {μ μ1 : zq_Me} (h : zHr H μ) {s : Nat} (h36 : μ1.1 50 36 = H'.2.2.2.2) (ho : ∀ a, a < 4 → a ≠ s → μ1.1 72 a = μ.1 72 a ∧ μ1.1 73 a = μ.1 73 a ∧ μ1.1 74 a = μ.1 74 a ∧ ∀ i, i < 60 → μ1.1 75 (60 * a + i) = μ.1 75 (60 * a + i)) (hH : yho H H' s) (hn : μ1.1 72 s = (if H'.1 s = true then 1 else 0) ∧ (H'.1 s = true → μ1.1 73 s = nI (H'.2.1 s) ∧ μ1.1 74 s = nI (H'.2.2.1 s)) ∧ ∀ i, i < 60 → μ1.1 75 (60 * s + i) = H'.2.2.2.1 s i) : zHr H' μ1 := by
  refine ⟨fun a ha => ?_, h36⟩
  by_cases q : a = s
  · subst q; exact hn
  · obtain ⟨p1, p2, p3, p4⟩ := hH a q
    obtain ⟨o1, o2, o3, o4⟩ := ho a ha q
    rw [p1, p2, p3, p4, o1, o2, o3]
    exact ⟨(h.1 a ha).1, (h.1 a ha).2.1, fun i hi => by rw [o4 i hi]; exact (h.1 a ha).2.2 i hi⟩
theorem zIc.sh {τ : zTd} {S : zES} {H : zSH} {μ μ1 : zq_Me} (h : zIc τ S H μ) (H' : zSH) (hf : zq_fr [0, 25, 26, 27, 28, 29, 30, 31, 32] μ μ1) (h0 : ∀ i, i ≠ 13 → μ1.1 0 i = μ.1 0 i) (hH : zHc H' μ1) (hk : zHk H') : zIc τ S H' μ1 := by
  obtain ⟨a, b, d, e, f, g, o, s, k, hk0⟩ := h
  exact ⟨a.fr hf (by decide), b.fr hf (by decide), ⟨by rw [h0 12 (by decide)]; exact d.1, d.2⟩, e.fr hf (by decide), f.fr (h0 14 (by decide)) hf (by decide), g.fr hf (by decide), o.fr (h0 15 (by decide)) (h0 16 (by decide)) (hf.l (by decide)), s.sl (by rw [hf.a (b := 20) (by decide)]) (hf.a (by decide)) (hf.a (by decide)) (hf.a (by decide)), hH, hk⟩
theorem zIm.sh {τ : zTd} {S : zES} {H : zSH} {μ μ1 : zq_Me} (h : zIm τ S H μ) (H' : zSH) (hf : zq_fr [50, 72, 73, 74, 75, 76] μ μ1) (hi : ∀ i, i ≠ 36 → μ1.1 50 i = μ.1 50 i) (hH : zHr H' μ1) (hk : zHk H') : zIm τ S H' μ1 := by
  obtain ⟨a, b, c, d, e, k⟩ := h
  exact ⟨⟨a.1.fr hf (by decide), a.2.fr hf (by decide)⟩, ⟨by rw [hi 9 (by decide)]; exact b.1, b.2⟩, ⟨c.1.sl (hi 10 (by decide)) (hf.a (by decide)) (hf.a (by decide)) (hf.a (by decide)), c.2⟩, d.sl (hi 26 (by decide)) (hf.a (by decide)) (hf.a (by decide)) (hf.a (by decide)), hH, hk⟩
theorem zHk.n {H : zSH} (h : zHk H) {s f n : Nat} (lf : f ≤ 2) (ln : n ≤ 60) : zHk (yhn H s f n) := fun a ha => by
  show (if a = s then f else H.2.1 a) ≤ 2 ∧ (if a = s then n else H.2.2.1 a) ≤ 60
  by_cases q : a = s
  · rw [if_pos q, if_pos q]; exact ⟨lf, ln⟩
  · rw [if_neg q, if_neg q]; exact h a ha
theorem yin1 {b c : Nat} (h : b ≠ c) : b ∉ [c] := fun q => h (List.mem_singleton.mp q)
theorem zIc.it {τ : zTd} {S : zES} {H : zSH} {μ μ1 : zq_Me} (h : zIc τ S H μ) {s : Nat} (hs : s < 4) (F : Nat → Int32) (hf : zq_fr [26 + 2 * s] μ μ1) (hi : ∀ i, i < 60 → μ1.1 (26 + 2 * s) i = F i) : zIc τ S (yhi H s F) μ1 := by
  have q0 : μ1.1 0 = μ.1 0 := hf.a (yin1 (by omega))
  refine h.sh (yhi H s F) (hf.wk (fun b hb => by rw [List.mem_singleton.mp hb]; simp; omega)) (fun i _ => by rw [q0]) (zHc.one (s := s) h.2.2.2.2.2.2.2.2.1 ?_ (fun a ha q => ⟨hf.a (yin1 (by omega)), hf.a (yin1 (by omega))⟩) (fun a q => ⟨rfl, rfl, rfl, if_neg q⟩) ?_) h.2.2.2.2.2.2.2.2.2
  · rw [q0]; exact h.2.2.2.2.2.2.2.2.1.2
  · have k := h.2.2.2.2.2.2.2.2.1.1 s hs
    rw [hf.a (b := 25 + 2 * s) (yin1 (by omega))]
    exact ⟨k.1, k.2.1, fun i hi9 => by rw [hi i hi9]; show F i = (if s = s then F else H.2.2.2.1 s) i; rw [if_pos rfl]⟩
theorem zIm.it {τ : zTd} {S : zES} {H : zSH} {μ μ1 : zq_Me} (h : zIm τ S H μ) {s : Nat} (hs : s < 4) (F : Nat → Int32) (hf : zq_fr [75, 76] μ μ1) (ho : ∀ j, ¬ (60 * s ≤ j ∧ j < 60 * s + 60) → μ1.1 75 j = μ.1 75 j) (hi : ∀ i, i < 60 → μ1.1 75 (60 * s + i) = F i) : zIm τ S (yhi H s F) μ1 := by
  refine h.sh (yhi H s F) (hf.wk (by simp +contextual)) (fun i _ => by rw [hf.a (b := 50) (by decide)]) (zHr.one (s := s) h.2.2.2.2.1 ?_ (fun a ha q => ⟨by rw [hf.a (b := 72) (by decide)], by rw [hf.a (b := 73) (by decide)], by rw [hf.a (b := 74) (by decide)], fun i hi9 => ho _ (by omega)⟩) (fun a q => ⟨rfl, rfl, rfl, if_neg q⟩) ?_) h.2.2.2.2.2
  · rw [hf.a (b := 50) (by decide)]; exact h.2.2.2.2.1.2
  · have k := h.2.2.2.2.1.1 s hs
    rw [hf.a (b := 72) (by decide), hf.a (b := 73) (by decide), hf.a (b := 74) (by decide)]
    exact ⟨k.1, k.2.1, fun i hi9 => by rw [hi i hi9]; show F i = (if s = s then F else H.2.2.2.1 s) i; rw [if_pos rfl]⟩
theorem zIc.nw {τ : zTd} {S : zES} {H : zSH} {μ μ1 : zq_Me} (h : zIc τ S H μ) {s f n : Nat} (hs : s < 4) (lf : f ≤ 2) (ln : n ≤ 60) (hf : zq_fr [25 + 2 * s, 26 + 2 * s] μ μ1) (h1 : μ1.1 (25 + 2 * s) 1 = nI f) (h2 : μ1.1 (25 + 2 * s) 2 = nI n) (hi : ∀ i, i < 60 → μ1.1 (26 + 2 * s) i = 0) : zIc τ S (yhn H s f n) μ1 := by
  have no : ∀ b, b ≠ 25 + 2 * s → b ≠ 26 + 2 * s → b ∉ [25 + 2 * s, 26 + 2 * s] := fun b p q => by simp; omega
  have q0 : μ1.1 0 = μ.1 0 := hf.a (no 0 (by omega) (by omega))
  refine h.sh (yhn H s f n) (hf.wk (fun b hb => by simp at hb ⊢; omega)) (fun i _ => by rw [q0]) (zHc.one (s := s) h.2.2.2.2.2.2.2.2.1 ?_ (fun a ha q => ⟨hf.a (no _ (by omega) (by omega)), hf.a (no _ (by omega) (by omega))⟩) (fun a q => ⟨if_neg q, if_neg q, if_neg q, if_neg q⟩) ?_) (h.2.2.2.2.2.2.2.2.2.n lf ln)
  · rw [q0]; exact h.2.2.2.2.2.2.2.2.1.2
  · refine ⟨fun _ => ⟨?_, ?_⟩, fun q => ?_, fun i hi9 => ?_⟩
    · rw [h1]; show nI f = nI (if s = s then f else H.2.1 s); rw [if_pos rfl]
    · rw [h2]; show nI n = nI (if s = s then n else H.2.2.1 s); rw [if_pos rfl]
    · have q : (if s = s then true else H.1 s) = false := q
      rw [if_pos rfl] at q; exact absurd q (by decide)
    · rw [hi i hi9]; show 0 = (if s = s then (fun _ => (0 : Int32)) else H.2.2.2.1 s) i; rw [if_pos rfl]
theorem zIm.nw {τ : zTd} {S : zES} {H : zSH} {μ μ1 : zq_Me} (h : zIm τ S H μ) {s f n : Nat} (hs : s < 4) (lf : f ≤ 2) (ln : n ≤ 60) (hf : zq_fr [72, 73, 74, 75] μ μ1) (h1 : ∀ a, μ1.1 72 a = if a = s then 1 else μ.1 72 a) (h2 : ∀ a, μ1.1 73 a = if a = s then nI f else μ.1 73 a) (h3 : ∀ a, μ1.1 74 a = if a = s then nI n else μ.1 74 a) (ho : ∀ j, ¬ (60 * s ≤ j ∧ j < 60 * s + 60) → μ1.1 75 j = μ.1 75 j) (hi : ∀ i, i < 60 → μ1.1 75 (60 * s + i) = 0) : zIm τ S (yhn H s f n) μ1 := by
  refine h.sh (yhn H s f n) (hf.wk (by simp +contextual)) (fun i _ => by rw [hf.a (b := 50) (by decide)]) (zHr.one (s := s) h.2.2.2.2.1 ?_ (fun a ha q => ⟨by rw [h1, if_neg q], by rw [h2, if_neg q], by rw [h3, if_neg q], fun i hi9 => ho _ (by omega)⟩) (fun a q => ⟨if_neg q, if_neg q, if_neg q, if_neg q⟩) ?_) (h.2.2.2.2.2.n lf ln)
  · rw [hf.a (b := 50) (by decide)]; exact h.2.2.2.2.1.2
  · refine ⟨?_, fun _ => ⟨?_, ?_⟩, fun i hi9 => ?_⟩
    · rw [h1, if_pos rfl]; show (1 : Int32) = if (if s = s then true else H.1 s) = true then 1 else 0; rw [if_pos (rfl : s = s)]; rfl
    · rw [h2, if_pos rfl]; show nI f = nI (if s = s then f else H.2.1 s); rw [if_pos rfl]
    · rw [h3, if_pos rfl]; show nI n = nI (if s = s then n else H.2.2.1 s); rw [if_pos rfl]
    · rw [hi i hi9]; show 0 = (if s = s then (fun _ => (0 : Int32)) else H.2.2.2.1 s) i; rw [if_pos rfl]
theorem zIc.ls {τ : zTd} {S : zES} {H : zSH} {μ μ1 : zq_Me} (h : zIc τ S H μ) {s : Nat} (hs : s < 4) (hf : zq_fr [25 + 2 * s] μ μ1) (h2 : μ1.1 (25 + 2 * s) 2 = -1) : zIc τ S (yhl H s) μ1 := by
  have q0 : μ1.1 0 = μ.1 0 := hf.a (yin1 (by omega))
  refine h.sh (yhl H s) (hf.wk (fun b hb => by rw [List.mem_singleton.mp hb]; simp; omega)) (fun i _ => by rw [q0]) (zHc.one (s := s) h.2.2.2.2.2.2.2.2.1 ?_ (fun a ha q => ⟨hf.a (yin1 (by omega)), hf.a (yin1 (by omega))⟩) (fun a q => ⟨if_neg q, rfl, rfl, rfl⟩) ?_) h.2.2.2.2.2.2.2.2.2
  · rw [q0]; exact h.2.2.2.2.2.2.2.2.1.2
  · have k := h.2.2.2.2.2.2.2.2.1.1 s hs
    refine ⟨fun q => ?_, fun _ => h2, fun i hi9 => ?_⟩
    · have q : (if s = s then false else H.1 s) = true := q
      rw [if_pos rfl] at q; exact absurd q (by decide)
    · rw [hf.a (b := 26 + 2 * s) (yin1 (by omega))]; exact k.2.2 i hi9
theorem zIm.ls {τ : zTd} {S : zES} {H : zSH} {μ μ1 : zq_Me} (h : zIm τ S H μ) {s : Nat} (hs : s < 4) (hf : zq_fr [72] μ μ1) (h1 : ∀ a, μ1.1 72 a = if a = s then 0 else μ.1 72 a) : zIm τ S (yhl H s) μ1 := by
  refine h.sh (yhl H s) (hf.wk (by simp)) (fun i _ => by rw [hf.a (b := 50) (by decide)]) (zHr.one (s := s) h.2.2.2.2.1 ?_ (fun a ha q => ⟨by rw [h1, if_neg q], by rw [hf.a (b := 73) (by decide)], by rw [hf.a (b := 74) (by decide)], fun i hi9 => by rw [hf.a (b := 75) (by decide)]⟩) (fun a q => ⟨if_neg q, rfl, rfl, rfl⟩) ?_) h.2.2.2.2.2
  · rw [hf.a (b := 50) (by decide)]; exact h.2.2.2.2.1.2
  · have k := h.2.2.2.2.1.1 s hs
    refine ⟨?_, fun q => ?_, fun i hi9 => ?_⟩
    · rw [h1, if_pos rfl]; show (0 : Int32) = if (if s = s then false else H.1 s) = true then 1 else 0; rw [if_pos (rfl : s = s)]; rfl
    · have q : (if s = s then false else H.1 s) = true := q
      rw [if_pos rfl] at q; exact absurd q (by decide)
    · rw [hf.a (b := 75) (by decide)]; exact k.2.2 i hi9
theorem zIc.rf {τ : zTd} {S : zES} {H : zSH} {μ μ1 : zq_Me} (h : zIc τ S H μ) (n : Int32) (hf : zq_fr [0] μ μ1) (h0 : ∀ i, i ≠ 13 → μ1.1 0 i = μ.1 0 i) (h1 : μ1.1 0 13 = n) : zIc τ S (yhf H n) μ1 :=
  h.sh (yhf H n) (hf.wk (by simp)) h0 ⟨fun s hs => by rw [hf.a (b := 25 + 2 * s) (yin1 (by omega)), hf.a (b := 26 + 2 * s) (yin1 (by omega))]; exact h.2.2.2.2.2.2.2.2.1.1 s hs, h1⟩ h.2.2.2.2.2.2.2.2.2
theorem zIm.rf {τ : zTd} {S : zES} {H : zSH} {μ μ1 : zq_Me} (h : zIm τ S H μ) (n : Int32) (hf : zq_fr [50] μ μ1) (h0 : ∀ i, i ≠ 36 → μ1.1 50 i = μ.1 50 i) (h1 : μ1.1 50 36 = n) : zIm τ S (yhf H n) μ1 :=
  h.sh (yhf H n) (hf.wk (by simp)) h0 ⟨fun s hs => by rw [hf.a (b := 72) (by decide), hf.a (b := 73) (by decide), hf.a (b := 74) (by decide), hf.a (b := 75) (by decide)]; exact h.2.2.2.2.1.1 s hs, h1⟩ h.2.2.2.2.2
abbrev yfit (z : Nat) (i n : Int32) : Prop := 0 ≤ i ∧ 0 ≤ n ∧ i ≤ nI z ∧ n ≤ nI z - i
theorem yfit1 {z : Nat} (hz : z ≤ 60) {i : Int32} : yfit z i (nI 1) ↔ 0 ≤ i ∧ i ≤ nI z - nI 1 := by
  constructor
  · rintro ⟨a, b, c, d⟩
    obtain ⟨k, hk, rfl⟩ := yix (by omega) ⟨a, c⟩
    rw [zn_sub hk, zn_le (by omega) (by omega)] at d
    exact yip (by omega) (by omega)
  · intro h
    obtain ⟨k, hk, rfl⟩ := ypx (by omega) h
    exact ⟨zn_0le (by omega), by decide, by rw [zn_le (by omega) (by omega)]; omega, by rw [zn_sub (by omega), zn_le (by omega) (by omega)]; omega⟩
def ylk (H : zSH) (s f : Nat) (i : Int32) : Nat := if H.1 s = true then (if H.2.1 s = f then (if yfit (H.2.2.1 s) i (nI 1) then 0 else 2) else 3) else 1
theorem ylk_4 (H : zSH) (s f : Nat) (i : Int32) : ylk H s f i < 4 := by unfold ylk; split; split; split; all_goals decide
theorem ylk_0 {H : zSH} {s f : Nat} {i : Int32} (hz : H.2.2.1 s ≤ 60) (h : ylk H s f i = 0) : H.1 s = true ∧ H.2.1 s = f ∧ ∃ k, k < H.2.2.1 s ∧ i = nI k := by
  unfold ylk at h
  by_cases a : H.1 s = true
  · rw [if_pos a] at h
    by_cases b : H.2.1 s = f
    · rw [if_pos b] at h
      by_cases c : yfit (H.2.2.1 s) i (nI 1)
      · exact ⟨a, b, ypx (by omega) ((yfit1 hz).mp c)⟩
      · rw [if_neg c] at h; exact absurd h (by decide)
    · rw [if_neg b] at h; exact absurd h (by decide)
  · rw [if_neg a] at h; exact absurd h (by decide)
def yan (l : Nat) : Int32 := if l = 0 then 0 else -10 - nI l
def yhk (H : zSH) (l : Nat) : zSH := if l = 0 then H else yhf H (nI l)
theorem yan_n : ∀ l, l < 6 → l ≠ 0 → ¬ 0 ≤ yan l := by decide +kernel
theorem yfalse {b : Bool} (h : ¬ b = true) : b = false := Bool.eq_false_iff.mpr h
set_option maxRecDepth 100000 in
set_option maxHeartbeats 400000 in
theorem zs_refuse (n : Nat) {τ : zTd} {S : zES} {H : zSH} {μ0 : zq_Me} (hC : zIc τ S H μ0) : zq_Wp zn_X8_refuse 0 [(0, .ref 0), (1, .int (nI n))] [] μ0 (zRc (.int (-10 - nI n)) τ S (yhf H (nI n)) μ0) := by
  refine zq_go zt_X8_refuse 6 [] 9 [(0, .ref 0), (1, .int (nI n))] [.int ((-10) - (nI n))] (zq_u1 μ0 0 13 (nI n)) rfl trivial ?_
  obtain ⟨μ1, hμ1⟩ : ∃ k9 : zq_Me, k9 = (zq_u1 μ0 0 13 (nI n)) := ⟨_, rfl⟩
  rw [← hμ1]
  have f1 : zq_fr [0] μ0 μ1 := by rw [hμ1]; exact zq_fr.rf.u1 (by simp)
  have hI := hC.rf (nI n) f1 (fun i hi => by rw [hμ1, zq_u1_o2 hi]) (by rw [hμ1, zq_u1_s])
  exact zq_retn zt_X8_refuse rfl rfl (⟨rfl, hI, f1.wk (by simp [zSC])⟩)
set_option maxRecDepth 100000 in
set_option maxHeartbeats 400000 in
theorem zs_meets (n : Nat) {τ : zTd} {S : zES} {H : zSH} {μ0 : zq_Me} (hM : zIm τ S H μ0) : zq_Wp zn_X9_meets 0 [(0, .ref 50), (1, .int (nI n))] [] μ0 (zRm' (.int (-10 - nI n)) τ S (yhf H (nI n)) μ0) := by
  refine zq_go zt_X9_meets 6 [] 9 [(0, .ref 50), (1, .int (nI n))] [.int ((-10) - (nI n))] (zq_u1 μ0 50 36 (nI n)) rfl trivial ?_
  obtain ⟨μ1, hμ1⟩ : ∃ k9 : zq_Me, k9 = (zq_u1 μ0 50 36 (nI n)) := ⟨_, rfl⟩
  rw [← hμ1]
  have f1 : zq_fr [50] μ0 μ1 := by rw [hμ1]; exact zq_fr.rf.u1 (by simp)
  have hI := hM.rf (nI n) f1 (fun i hi => by rw [hμ1, zq_u1_o2 hi]) (by rw [hμ1, zq_u1_s])
  exact zq_retn zt_X9_meets rfl rfl (⟨rfl, hI, f1.wk (by simp [zSM])⟩)
set_option maxRecDepth 100000 in
set_option maxHeartbeats 400000 in
theorem zs_isLost_0 {τ : zTd} {S : zES} {H : zSH} {μ0 : zq_Me} (ht : H.1 0 = true) (hC : zIc τ S H μ0) : zq_Wp zn_X4_isLost 0 [(0, .ref 25)] [] μ0 (zq_pi (nI 0) μ0) := by
  have hz := (hC.2.2.2.2.2.2.2.2.2 0 (by decide)).2
  have hs1 : μ0.1 25 1 = nI (H.2.1 0) := ((hC.2.2.2.2.2.2.2.2.1.1 0 (by decide)).1 ht).1
  have hs2 : μ0.1 25 2 = nI (H.2.2.1 0) := ((hC.2.2.2.2.2.2.2.2.1.1 0 (by decide)).1 ht).2
  have hi : ∀ i, i < 60 → μ0.1 26 i = H.2.2.2.1 0 i := (hC.2.2.2.2.2.2.2.2.1.1 0 (by decide)).2.2
  have hfm := (hC.2.2.2.2.2.2.2.2.2 0 (by decide)).1
  refine zq_go zt_X4_isLost 4 [] (if ¬ (μ0.1 25 2) = (-1) then 12 else 8) [(0, .ref 25)] [] μ0 rfl trivial ?_
  rw [hs2]
  rw [if_pos (zn_neg1 (by omega))]
  refine zq_go zt_X4_isLost 1 [] 13 [(0, .ref 25)] [.int (nI 0)] μ0 rfl trivial ?_
  exact zq_retz zt_X4_isLost rfl (Or.inl rfl) (⟨rfl, rfl⟩)
set_option maxRecDepth 100000 in
set_option maxHeartbeats 400000 in
theorem zs_isLost_1 {τ : zTd} {S : zES} {H : zSH} {μ0 : zq_Me} (ht : H.1 1 = true) (hC : zIc τ S H μ0) : zq_Wp zn_X4_isLost 0 [(0, .ref 27)] [] μ0 (zq_pi (nI 0) μ0) := by
  have hz := (hC.2.2.2.2.2.2.2.2.2 1 (by decide)).2
  have hs1 : μ0.1 27 1 = nI (H.2.1 1) := ((hC.2.2.2.2.2.2.2.2.1.1 1 (by decide)).1 ht).1
  have hs2 : μ0.1 27 2 = nI (H.2.2.1 1) := ((hC.2.2.2.2.2.2.2.2.1.1 1 (by decide)).1 ht).2
  have hi : ∀ i, i < 60 → μ0.1 28 i = H.2.2.2.1 1 i := (hC.2.2.2.2.2.2.2.2.1.1 1 (by decide)).2.2
  have hfm := (hC.2.2.2.2.2.2.2.2.2 1 (by decide)).1
  refine zq_go zt_X4_isLost 4 [] (if ¬ (μ0.1 27 2) = (-1) then 12 else 8) [(0, .ref 27)] [] μ0 rfl trivial ?_
  rw [hs2]
  rw [if_pos (zn_neg1 (by omega))]
  refine zq_go zt_X4_isLost 1 [] 13 [(0, .ref 27)] [.int (nI 0)] μ0 rfl trivial ?_
  exact zq_retz zt_X4_isLost rfl (Or.inl rfl) (⟨rfl, rfl⟩)
set_option maxRecDepth 100000 in
set_option maxHeartbeats 400000 in
theorem zs_isLost_2 {τ : zTd} {S : zES} {H : zSH} {μ0 : zq_Me} (ht : H.1 2 = true) (hC : zIc τ S H μ0) : zq_Wp zn_X4_isLost 0 [(0, .ref 29)] [] μ0 (zq_pi (nI 0) μ0) := by
  have hz := (hC.2.2.2.2.2.2.2.2.2 2 (by decide)).2
  have hs1 : μ0.1 29 1 = nI (H.2.1 2) := ((hC.2.2.2.2.2.2.2.2.1.1 2 (by decide)).1 ht).1
  have hs2 : μ0.1 29 2 = nI (H.2.2.1 2) := ((hC.2.2.2.2.2.2.2.2.1.1 2 (by decide)).1 ht).2
  have hi : ∀ i, i < 60 → μ0.1 30 i = H.2.2.2.1 2 i := (hC.2.2.2.2.2.2.2.2.1.1 2 (by decide)).2.2
  have hfm := (hC.2.2.2.2.2.2.2.2.2 2 (by decide)).1
  refine zq_go zt_X4_isLost 4 [] (if ¬ (μ0.1 29 2) = (-1) then 12 else 8) [(0, .ref 29)] [] μ0 rfl trivial ?_
  rw [hs2]
  rw [if_pos (zn_neg1 (by omega))]
  refine zq_go zt_X4_isLost 1 [] 13 [(0, .ref 29)] [.int (nI 0)] μ0 rfl trivial ?_
  exact zq_retz zt_X4_isLost rfl (Or.inl rfl) (⟨rfl, rfl⟩)
set_option maxRecDepth 100000 in
set_option maxHeartbeats 400000 in
theorem zs_isLost_3 {τ : zTd} {S : zES} {H : zSH} {μ0 : zq_Me} (ht : H.1 3 = true) (hC : zIc τ S H μ0) : zq_Wp zn_X4_isLost 0 [(0, .ref 31)] [] μ0 (zq_pi (nI 0) μ0) := by
  have hz := (hC.2.2.2.2.2.2.2.2.2 3 (by decide)).2
  have hs1 : μ0.1 31 1 = nI (H.2.1 3) := ((hC.2.2.2.2.2.2.2.2.1.1 3 (by decide)).1 ht).1
  have hs2 : μ0.1 31 2 = nI (H.2.2.1 3) := ((hC.2.2.2.2.2.2.2.2.1.1 3 (by decide)).1 ht).2
  have hi : ∀ i, i < 60 → μ0.1 32 i = H.2.2.2.1 3 i := (hC.2.2.2.2.2.2.2.2.1.1 3 (by decide)).2.2
  have hfm := (hC.2.2.2.2.2.2.2.2.2 3 (by decide)).1
  refine zq_go zt_X4_isLost 4 [] (if ¬ (μ0.1 31 2) = (-1) then 12 else 8) [(0, .ref 31)] [] μ0 rfl trivial ?_
  rw [hs2]
  rw [if_pos (zn_neg1 (by omega))]
  refine zq_go zt_X4_isLost 1 [] 13 [(0, .ref 31)] [.int (nI 0)] μ0 rfl trivial ?_
  exact zq_retz zt_X4_isLost rfl (Or.inl rfl) (⟨rfl, rfl⟩)
set_option maxRecDepth 100000 in
set_option maxHeartbeats 400000 in
theorem zs_isLostN_0 {τ : zTd} {S : zES} {H : zSH} {μ0 : zq_Me} (ht : H.1 0 = false) (hC : zIc τ S H μ0) : zq_Wp zn_X4_isLost 0 [(0, .ref 25)] [] μ0 (zq_pi (nI 1) μ0) := by
  have hs2 : μ0.1 25 2 = -1 := (hC.2.2.2.2.2.2.2.2.1.1 0 (by decide)).2.1 ht
  refine zq_go zt_X4_isLost 4 [] (if ¬ (μ0.1 25 2) = (-1) then 12 else 8) [(0, .ref 25)] [] μ0 rfl trivial ?_
  rw [hs2]
  rw [if_neg (fun q => q rfl)]
  refine zq_go zt_X4_isLost 2 [] 13 [(0, .ref 25)] [.int (nI 1)] μ0 rfl trivial ?_
  exact zq_retz zt_X4_isLost rfl (Or.inr rfl) (⟨rfl, rfl⟩)
set_option maxRecDepth 100000 in
set_option maxHeartbeats 400000 in
theorem zs_isLostN_1 {τ : zTd} {S : zES} {H : zSH} {μ0 : zq_Me} (ht : H.1 1 = false) (hC : zIc τ S H μ0) : zq_Wp zn_X4_isLost 0 [(0, .ref 27)] [] μ0 (zq_pi (nI 1) μ0) := by
  have hs2 : μ0.1 27 2 = -1 := (hC.2.2.2.2.2.2.2.2.1.1 1 (by decide)).2.1 ht
  refine zq_go zt_X4_isLost 4 [] (if ¬ (μ0.1 27 2) = (-1) then 12 else 8) [(0, .ref 27)] [] μ0 rfl trivial ?_
  rw [hs2]
  rw [if_neg (fun q => q rfl)]
  refine zq_go zt_X4_isLost 2 [] 13 [(0, .ref 27)] [.int (nI 1)] μ0 rfl trivial ?_
  exact zq_retz zt_X4_isLost rfl (Or.inr rfl) (⟨rfl, rfl⟩)
set_option maxRecDepth 100000 in
set_option maxHeartbeats 400000 in
theorem zs_isLostN_2 {τ : zTd} {S : zES} {H : zSH} {μ0 : zq_Me} (ht : H.1 2 = false) (hC : zIc τ S H μ0) : zq_Wp zn_X4_isLost 0 [(0, .ref 29)] [] μ0 (zq_pi (nI 1) μ0) := by
  have hs2 : μ0.1 29 2 = -1 := (hC.2.2.2.2.2.2.2.2.1.1 2 (by decide)).2.1 ht
  refine zq_go zt_X4_isLost 4 [] (if ¬ (μ0.1 29 2) = (-1) then 12 else 8) [(0, .ref 29)] [] μ0 rfl trivial ?_
  rw [hs2]
  rw [if_neg (fun q => q rfl)]
  refine zq_go zt_X4_isLost 2 [] 13 [(0, .ref 29)] [.int (nI 1)] μ0 rfl trivial ?_
  exact zq_retz zt_X4_isLost rfl (Or.inr rfl) (⟨rfl, rfl⟩)
set_option maxRecDepth 100000 in
set_option maxHeartbeats 400000 in
theorem zs_isLostN_3 {τ : zTd} {S : zES} {H : zSH} {μ0 : zq_Me} (ht : H.1 3 = false) (hC : zIc τ S H μ0) : zq_Wp zn_X4_isLost 0 [(0, .ref 31)] [] μ0 (zq_pi (nI 1) μ0) := by
  have hs2 : μ0.1 31 2 = -1 := (hC.2.2.2.2.2.2.2.2.1.1 3 (by decide)).2.1 ht
  refine zq_go zt_X4_isLost 4 [] (if ¬ (μ0.1 31 2) = (-1) then 12 else 8) [(0, .ref 31)] [] μ0 rfl trivial ?_
  rw [hs2]
  rw [if_neg (fun q => q rfl)]
  refine zq_go zt_X4_isLost 2 [] 13 [(0, .ref 31)] [.int (nI 1)] μ0 rfl trivial ?_
  exact zq_retz zt_X4_isLost rfl (Or.inr rfl) (⟨rfl, rfl⟩)
set_option maxRecDepth 100000 in
set_option maxHeartbeats 400000 in
theorem zs_holds_0 {τ : zTd} {S : zES} {H : zSH} {μ0 : zq_Me} (ht : H.1 0 = true) (i n : Int32) (hC : zIc τ S H μ0) : zq_Wp zn_X4_holds 0 [(0, .ref 25), (1, .int i), (2, .int n)] [] μ0 (zq_pi (zb (yfit (H.2.2.1 0) i n)) μ0) := by
  have hz := (hC.2.2.2.2.2.2.2.2.2 0 (by decide)).2
  have hs1 : μ0.1 25 1 = nI (H.2.1 0) := ((hC.2.2.2.2.2.2.2.2.1.1 0 (by decide)).1 ht).1
  have hs2 : μ0.1 25 2 = nI (H.2.2.1 0) := ((hC.2.2.2.2.2.2.2.2.1.1 0 (by decide)).1 ht).2
  have hi : ∀ i, i < 60 → μ0.1 26 i = H.2.2.2.1 0 i := (hC.2.2.2.2.2.2.2.2.1.1 0 (by decide)).2.2
  have hfm := (hC.2.2.2.2.2.2.2.2.2 0 (by decide)).1
  refine zq_go zt_X4_holds 2 [] (if i < 0 then 30 else 4) [(0, .ref 25), (1, .int i), (2, .int n)] [] μ0 rfl trivial ?_
  refine zq_ite (fun h6 => ?_) (fun h6 => ?_)
  · refine zq_go zt_X4_holds 1 [] 31 [(0, .ref 25), (1, .int i), (2, .int n)] [.int (nI 0)] μ0 rfl trivial ?_
    exact zq_retz zt_X4_holds rfl (Or.inl rfl) (⟨by rw [zb_f (p := yfit (H.2.2.1 0) i n) (fun q => Int32.not_lt.mpr q.1 h6)]; rfl, rfl⟩)
  · refine zq_go zt_X4_holds 2 [] (if n < 0 then 30 else 8) [(0, .ref 25), (1, .int i), (2, .int n)] [] μ0 rfl trivial ?_
    refine zq_ite (fun h10 => ?_) (fun h10 => ?_)
    · refine zq_go zt_X4_holds 1 [] 31 [(0, .ref 25), (1, .int i), (2, .int n)] [.int (nI 0)] μ0 rfl trivial ?_
      exact zq_retz zt_X4_holds rfl (Or.inl rfl) (⟨by rw [zb_f (p := yfit (H.2.2.1 0) i n) (fun q => Int32.not_lt.mpr q.2.1 h10)]; rfl, rfl⟩)
    · refine zq_go zt_X4_holds 4 [] (if (μ0.1 25 2) < i then 30 else 16) [(0, .ref 25), (1, .int i), (2, .int n)] [] μ0 rfl trivial ?_
      rw [hs2]
      refine zq_ite (fun h15 => ?_) (fun h15 => ?_)
      · refine zq_go zt_X4_holds 1 [] 31 [(0, .ref 25), (1, .int i), (2, .int n)] [.int (nI 0)] μ0 rfl trivial ?_
        exact zq_retz zt_X4_holds rfl (Or.inl rfl) (⟨by rw [zb_f (p := yfit (H.2.2.1 0) i n) (fun q => Int32.not_lt.mpr q.2.2.1 h15)]; rfl, rfl⟩)
      · refine zq_go zt_X4_holds 6 [] (if ((μ0.1 25 2) - i) < n then 30 else 26) [(0, .ref 25), (1, .int i), (2, .int n)] [] μ0 rfl trivial ?_
        rw [hs2]
        refine zq_ite (fun h20 => ?_) (fun h20 => ?_)
        · refine zq_go zt_X4_holds 1 [] 31 [(0, .ref 25), (1, .int i), (2, .int n)] [.int (nI 0)] μ0 rfl trivial ?_
          exact zq_retz zt_X4_holds rfl (Or.inl rfl) (⟨by rw [zb_f (p := yfit (H.2.2.1 0) i n) (fun q => Int32.not_lt.mpr q.2.2.2 h20)]; rfl, rfl⟩)
        · refine zq_go zt_X4_holds 2 [] 31 [(0, .ref 25), (1, .int i), (2, .int n)] [.int (nI 1)] μ0 rfl trivial ?_
          exact zq_retz zt_X4_holds rfl (Or.inr rfl) (⟨by rw [zb_t (p := yfit (H.2.2.1 0) i n) ⟨Int32.not_lt.mp h6, Int32.not_lt.mp h10, Int32.not_lt.mp h15, Int32.not_lt.mp h20⟩]; rfl, rfl⟩)
set_option maxRecDepth 100000 in
set_option maxHeartbeats 400000 in
theorem zs_holds_1 {τ : zTd} {S : zES} {H : zSH} {μ0 : zq_Me} (ht : H.1 1 = true) (i n : Int32) (hC : zIc τ S H μ0) : zq_Wp zn_X4_holds 0 [(0, .ref 27), (1, .int i), (2, .int n)] [] μ0 (zq_pi (zb (yfit (H.2.2.1 1) i n)) μ0) := by
  have hz := (hC.2.2.2.2.2.2.2.2.2 1 (by decide)).2
  have hs1 : μ0.1 27 1 = nI (H.2.1 1) := ((hC.2.2.2.2.2.2.2.2.1.1 1 (by decide)).1 ht).1
  have hs2 : μ0.1 27 2 = nI (H.2.2.1 1) := ((hC.2.2.2.2.2.2.2.2.1.1 1 (by decide)).1 ht).2
  have hi : ∀ i, i < 60 → μ0.1 28 i = H.2.2.2.1 1 i := (hC.2.2.2.2.2.2.2.2.1.1 1 (by decide)).2.2
  have hfm := (hC.2.2.2.2.2.2.2.2.2 1 (by decide)).1
  refine zq_go zt_X4_holds 2 [] (if i < 0 then 30 else 4) [(0, .ref 27), (1, .int i), (2, .int n)] [] μ0 rfl trivial ?_
  refine zq_ite (fun h6 => ?_) (fun h6 => ?_)
  · refine zq_go zt_X4_holds 1 [] 31 [(0, .ref 27), (1, .int i), (2, .int n)] [.int (nI 0)] μ0 rfl trivial ?_
    exact zq_retz zt_X4_holds rfl (Or.inl rfl) (⟨by rw [zb_f (p := yfit (H.2.2.1 1) i n) (fun q => Int32.not_lt.mpr q.1 h6)]; rfl, rfl⟩)
  · refine zq_go zt_X4_holds 2 [] (if n < 0 then 30 else 8) [(0, .ref 27), (1, .int i), (2, .int n)] [] μ0 rfl trivial ?_
    refine zq_ite (fun h10 => ?_) (fun h10 => ?_)
    · refine zq_go zt_X4_holds 1 [] 31 [(0, .ref 27), (1, .int i), (2, .int n)] [.int (nI 0)] μ0 rfl trivial ?_
      exact zq_retz zt_X4_holds rfl (Or.inl rfl) (⟨by rw [zb_f (p := yfit (H.2.2.1 1) i n) (fun q => Int32.not_lt.mpr q.2.1 h10)]; rfl, rfl⟩)
    · refine zq_go zt_X4_holds 4 [] (if (μ0.1 27 2) < i then 30 else 16) [(0, .ref 27), (1, .int i), (2, .int n)] [] μ0 rfl trivial ?_
      rw [hs2]
      refine zq_ite (fun h15 => ?_) (fun h15 => ?_)
      · refine zq_go zt_X4_holds 1 [] 31 [(0, .ref 27), (1, .int i), (2, .int n)] [.int (nI 0)] μ0 rfl trivial ?_
        exact zq_retz zt_X4_holds rfl (Or.inl rfl) (⟨by rw [zb_f (p := yfit (H.2.2.1 1) i n) (fun q => Int32.not_lt.mpr q.2.2.1 h15)]; rfl, rfl⟩)
      · refine zq_go zt_X4_holds 6 [] (if ((μ0.1 27 2) - i) < n then 30 else 26) [(0, .ref 27), (1, .int i), (2, .int n)] [] μ0 rfl trivial ?_
        rw [hs2]
        refine zq_ite (fun h20 => ?_) (fun h20 => ?_)
        · refine zq_go zt_X4_holds 1 [] 31 [(0, .ref 27), (1, .int i), (2, .int n)] [.int (nI 0)] μ0 rfl trivial ?_
          exact zq_retz zt_X4_holds rfl (Or.inl rfl) (⟨by rw [zb_f (p := yfit (H.2.2.1 1) i n) (fun q => Int32.not_lt.mpr q.2.2.2 h20)]; rfl, rfl⟩)
        · refine zq_go zt_X4_holds 2 [] 31 [(0, .ref 27), (1, .int i), (2, .int n)] [.int (nI 1)] μ0 rfl trivial ?_
          exact zq_retz zt_X4_holds rfl (Or.inr rfl) (⟨by rw [zb_t (p := yfit (H.2.2.1 1) i n) ⟨Int32.not_lt.mp h6, Int32.not_lt.mp h10, Int32.not_lt.mp h15, Int32.not_lt.mp h20⟩]; rfl, rfl⟩)
set_option maxRecDepth 100000 in
set_option maxHeartbeats 400000 in
theorem zs_holds_2 {τ : zTd} {S : zES} {H : zSH} {μ0 : zq_Me} (ht : H.1 2 = true) (i n : Int32) (hC : zIc τ S H μ0) : zq_Wp zn_X4_holds 0 [(0, .ref 29), (1, .int i), (2, .int n)] [] μ0 (zq_pi (zb (yfit (H.2.2.1 2) i n)) μ0) := by
  have hz := (hC.2.2.2.2.2.2.2.2.2 2 (by decide)).2
  have hs1 : μ0.1 29 1 = nI (H.2.1 2) := ((hC.2.2.2.2.2.2.2.2.1.1 2 (by decide)).1 ht).1
  have hs2 : μ0.1 29 2 = nI (H.2.2.1 2) := ((hC.2.2.2.2.2.2.2.2.1.1 2 (by decide)).1 ht).2
  have hi : ∀ i, i < 60 → μ0.1 30 i = H.2.2.2.1 2 i := (hC.2.2.2.2.2.2.2.2.1.1 2 (by decide)).2.2
  have hfm := (hC.2.2.2.2.2.2.2.2.2 2 (by decide)).1
  refine zq_go zt_X4_holds 2 [] (if i < 0 then 30 else 4) [(0, .ref 29), (1, .int i), (2, .int n)] [] μ0 rfl trivial ?_
  refine zq_ite (fun h6 => ?_) (fun h6 => ?_)
  · refine zq_go zt_X4_holds 1 [] 31 [(0, .ref 29), (1, .int i), (2, .int n)] [.int (nI 0)] μ0 rfl trivial ?_
    exact zq_retz zt_X4_holds rfl (Or.inl rfl) (⟨by rw [zb_f (p := yfit (H.2.2.1 2) i n) (fun q => Int32.not_lt.mpr q.1 h6)]; rfl, rfl⟩)
  · refine zq_go zt_X4_holds 2 [] (if n < 0 then 30 else 8) [(0, .ref 29), (1, .int i), (2, .int n)] [] μ0 rfl trivial ?_
    refine zq_ite (fun h10 => ?_) (fun h10 => ?_)
    · refine zq_go zt_X4_holds 1 [] 31 [(0, .ref 29), (1, .int i), (2, .int n)] [.int (nI 0)] μ0 rfl trivial ?_
      exact zq_retz zt_X4_holds rfl (Or.inl rfl) (⟨by rw [zb_f (p := yfit (H.2.2.1 2) i n) (fun q => Int32.not_lt.mpr q.2.1 h10)]; rfl, rfl⟩)
    · refine zq_go zt_X4_holds 4 [] (if (μ0.1 29 2) < i then 30 else 16) [(0, .ref 29), (1, .int i), (2, .int n)] [] μ0 rfl trivial ?_
      rw [hs2]
      refine zq_ite (fun h15 => ?_) (fun h15 => ?_)
      · refine zq_go zt_X4_holds 1 [] 31 [(0, .ref 29), (1, .int i), (2, .int n)] [.int (nI 0)] μ0 rfl trivial ?_
        exact zq_retz zt_X4_holds rfl (Or.inl rfl) (⟨by rw [zb_f (p := yfit (H.2.2.1 2) i n) (fun q => Int32.not_lt.mpr q.2.2.1 h15)]; rfl, rfl⟩)
      · refine zq_go zt_X4_holds 6 [] (if ((μ0.1 29 2) - i) < n then 30 else 26) [(0, .ref 29), (1, .int i), (2, .int n)] [] μ0 rfl trivial ?_
        rw [hs2]
        refine zq_ite (fun h20 => ?_) (fun h20 => ?_)
        · refine zq_go zt_X4_holds 1 [] 31 [(0, .ref 29), (1, .int i), (2, .int n)] [.int (nI 0)] μ0 rfl trivial ?_
          exact zq_retz zt_X4_holds rfl (Or.inl rfl) (⟨by rw [zb_f (p := yfit (H.2.2.1 2) i n) (fun q => Int32.not_lt.mpr q.2.2.2 h20)]; rfl, rfl⟩)
        · refine zq_go zt_X4_holds 2 [] 31 [(0, .ref 29), (1, .int i), (2, .int n)] [.int (nI 1)] μ0 rfl trivial ?_
          exact zq_retz zt_X4_holds rfl (Or.inr rfl) (⟨by rw [zb_t (p := yfit (H.2.2.1 2) i n) ⟨Int32.not_lt.mp h6, Int32.not_lt.mp h10, Int32.not_lt.mp h15, Int32.not_lt.mp h20⟩]; rfl, rfl⟩)
set_option maxRecDepth 100000 in
set_option maxHeartbeats 400000 in
theorem zs_holds_3 {τ : zTd} {S : zES} {H : zSH} {μ0 : zq_Me} (ht : H.1 3 = true) (i n : Int32) (hC : zIc τ S H μ0) : zq_Wp zn_X4_holds 0 [(0, .ref 31), (1, .int i), (2, .int n)] [] μ0 (zq_pi (zb (yfit (H.2.2.1 3) i n)) μ0) := by
  have hz := (hC.2.2.2.2.2.2.2.2.2 3 (by decide)).2
  have hs1 : μ0.1 31 1 = nI (H.2.1 3) := ((hC.2.2.2.2.2.2.2.2.1.1 3 (by decide)).1 ht).1
  have hs2 : μ0.1 31 2 = nI (H.2.2.1 3) := ((hC.2.2.2.2.2.2.2.2.1.1 3 (by decide)).1 ht).2
  have hi : ∀ i, i < 60 → μ0.1 32 i = H.2.2.2.1 3 i := (hC.2.2.2.2.2.2.2.2.1.1 3 (by decide)).2.2
  have hfm := (hC.2.2.2.2.2.2.2.2.2 3 (by decide)).1
  refine zq_go zt_X4_holds 2 [] (if i < 0 then 30 else 4) [(0, .ref 31), (1, .int i), (2, .int n)] [] μ0 rfl trivial ?_
  refine zq_ite (fun h6 => ?_) (fun h6 => ?_)
  · refine zq_go zt_X4_holds 1 [] 31 [(0, .ref 31), (1, .int i), (2, .int n)] [.int (nI 0)] μ0 rfl trivial ?_
    exact zq_retz zt_X4_holds rfl (Or.inl rfl) (⟨by rw [zb_f (p := yfit (H.2.2.1 3) i n) (fun q => Int32.not_lt.mpr q.1 h6)]; rfl, rfl⟩)
  · refine zq_go zt_X4_holds 2 [] (if n < 0 then 30 else 8) [(0, .ref 31), (1, .int i), (2, .int n)] [] μ0 rfl trivial ?_
    refine zq_ite (fun h10 => ?_) (fun h10 => ?_)
    · refine zq_go zt_X4_holds 1 [] 31 [(0, .ref 31), (1, .int i), (2, .int n)] [.int (nI 0)] μ0 rfl trivial ?_
      exact zq_retz zt_X4_holds rfl (Or.inl rfl) (⟨by rw [zb_f (p := yfit (H.2.2.1 3) i n) (fun q => Int32.not_lt.mpr q.2.1 h10)]; rfl, rfl⟩)
    · refine zq_go zt_X4_holds 4 [] (if (μ0.1 31 2) < i then 30 else 16) [(0, .ref 31), (1, .int i), (2, .int n)] [] μ0 rfl trivial ?_
      rw [hs2]
      refine zq_ite (fun h15 => ?_) (fun h15 => ?_)
      · refine zq_go zt_X4_holds 1 [] 31 [(0, .ref 31), (1, .int i), (2, .int n)] [.int (nI 0)] μ0 rfl trivial ?_
        exact zq_retz zt_X4_holds rfl (Or.inl rfl) (⟨by rw [zb_f (p := yfit (H.2.2.1 3) i n) (fun q => Int32.not_lt.mpr q.2.2.1 h15)]; rfl, rfl⟩)
      · refine zq_go zt_X4_holds 6 [] (if ((μ0.1 31 2) - i) < n then 30 else 26) [(0, .ref 31), (1, .int i), (2, .int n)] [] μ0 rfl trivial ?_
        rw [hs2]
        refine zq_ite (fun h20 => ?_) (fun h20 => ?_)
        · refine zq_go zt_X4_holds 1 [] 31 [(0, .ref 31), (1, .int i), (2, .int n)] [.int (nI 0)] μ0 rfl trivial ?_
          exact zq_retz zt_X4_holds rfl (Or.inl rfl) (⟨by rw [zb_f (p := yfit (H.2.2.1 3) i n) (fun q => Int32.not_lt.mpr q.2.2.2 h20)]; rfl, rfl⟩)
        · refine zq_go zt_X4_holds 2 [] 31 [(0, .ref 31), (1, .int i), (2, .int n)] [.int (nI 1)] μ0 rfl trivial ?_
          exact zq_retz zt_X4_holds rfl (Or.inr rfl) (⟨by rw [zb_t (p := yfit (H.2.2.1 3) i n) ⟨Int32.not_lt.mp h6, Int32.not_lt.mp h10, Int32.not_lt.mp h15, Int32.not_lt.mp h20⟩]; rfl, rfl⟩)
set_option maxRecDepth 100000 in
set_option maxHeartbeats 400000 in
theorem zs_lay_0 {τ : zTd} {S : zES} {H : zSH} {μ0 : zq_Me} (ht : H.1 0 = true) {k : Nat} (lk : k < 60) (v : Int32) (hC : zIc τ S H μ0) : zq_Wp zn_X4_lay 0 [(0, .ref 25), (1, .int (nI k)), (2, .int v)] [] μ0 (fun r μ => r = none ∧ μ = zq_u1 μ0 26 k (znr (H.2.1 0) v)) := by
  have hz := (hC.2.2.2.2.2.2.2.2.2 0 (by decide)).2
  have hs1 : μ0.1 25 1 = nI (H.2.1 0) := ((hC.2.2.2.2.2.2.2.2.1.1 0 (by decide)).1 ht).1
  have hs2 : μ0.1 25 2 = nI (H.2.2.1 0) := ((hC.2.2.2.2.2.2.2.2.1.1 0 (by decide)).1 ht).2
  have hi : ∀ i, i < 60 → μ0.1 26 i = H.2.2.2.1 0 i := (hC.2.2.2.2.2.2.2.2.1.1 0 (by decide)).2.2
  have hfm := (hC.2.2.2.2.2.2.2.2.2 0 (by decide)).1
  refine zq_go zt_X4_lay 3 [] (if ¬ (μ0.1 25 1) = 0 then 18 else 7) [(0, .ref 25), (1, .int (nI k)), (2, .int v)] [] μ0 rfl trivial ?_
  rw [hs1]
  refine zq_ite (fun h7 => ?_) (fun h7 => ?_)
  · have h7 : ¬ H.2.1 0 = 0 := by
      rw [show (0 : Int32) = nI 0 from rfl, zn_eq (by omega) (by omega)] at h7
      exact h7
    refine zq_go zt_X4_lay 7 [] (if ¬ (μ0.1 25 1) = (nI 1) then 36 else 31) [(0, .ref 25), (1, .int (nI k)), (2, .int v)] [.int (nI k), .ref 26] μ0 rfl trivial ?_
    rw [hs1]
    refine zq_ite (fun h13 => ?_) (fun h13 => ?_)
    · have e0 : znr (H.2.1 0) v = v := by
        unfold znr
        rw [if_neg h7, if_neg (by rw [zn_eq (by omega) (by omega)] at h13; omega)]
      rw [e0]
      refine zq_go zt_X4_lay 2 [vp_in (nI k) 60] 38 [(0, .ref 25), (1, .int (nI k)), (2, .int v)] [] (zq_u1 μ0 26 ((nI k).toNatClampNeg) v) rfl ⟨zn_in (k := k) rfl (by omega) (by decide), trivial⟩ ?_
      rw [zn_cl (n := k) (by omega)]
      exact zq_retn zt_X4_lay rfl rfl (⟨rfl, rfl⟩)
    · have e0 : znr (H.2.1 0) v = v.toInt16.toInt32 := by
        unfold znr
        rw [if_neg h7, if_pos (by rw [zn_eq (by omega) (by omega)] at h13; omega)]
      rw [e0]
      refine zq_go zt_X4_lay 3 [] 37 [(0, .ref 25), (1, .int (nI k)), (2, .int v)] [.int v.toInt16.toInt32, .int (nI k), .ref 26] μ0 rfl trivial ?_
      refine zq_go zt_X4_lay 1 [vp_in (nI k) 60] 38 [(0, .ref 25), (1, .int (nI k)), (2, .int v)] [] (zq_u1 μ0 26 ((nI k).toNatClampNeg) v.toInt16.toInt32) rfl ⟨zn_in (k := k) rfl (by omega) (by decide), trivial⟩ ?_
      rw [zn_cl (n := k) (by omega)]
      exact zq_retn zt_X4_lay rfl rfl (⟨rfl, rfl⟩)
  · have e0 : znr (H.2.1 0) v = v.toInt8.toInt32 := if_pos (by rw [show (0 : Int32) = nI 0 from rfl, zn_eq (by omega) (by omega)] at h7; omega)
    rw [e0]
    refine zq_go zt_X4_lay 7 [vp_in (nI k) 60] 38 [(0, .ref 25), (1, .int (nI k)), (2, .int v)] [] (zq_u1 μ0 26 ((nI k).toNatClampNeg) v.toInt8.toInt32) rfl ⟨zn_in (k := k) rfl (by omega) (by decide), trivial⟩ ?_
    rw [zn_cl (n := k) (by omega)]
    exact zq_retn zt_X4_lay rfl rfl (⟨rfl, rfl⟩)
set_option maxRecDepth 100000 in
set_option maxHeartbeats 400000 in
theorem zs_lay_1 {τ : zTd} {S : zES} {H : zSH} {μ0 : zq_Me} (ht : H.1 1 = true) {k : Nat} (lk : k < 60) (v : Int32) (hC : zIc τ S H μ0) : zq_Wp zn_X4_lay 0 [(0, .ref 27), (1, .int (nI k)), (2, .int v)] [] μ0 (fun r μ => r = none ∧ μ = zq_u1 μ0 28 k (znr (H.2.1 1) v)) := by
  have hz := (hC.2.2.2.2.2.2.2.2.2 1 (by decide)).2
  have hs1 : μ0.1 27 1 = nI (H.2.1 1) := ((hC.2.2.2.2.2.2.2.2.1.1 1 (by decide)).1 ht).1
  have hs2 : μ0.1 27 2 = nI (H.2.2.1 1) := ((hC.2.2.2.2.2.2.2.2.1.1 1 (by decide)).1 ht).2
  have hi : ∀ i, i < 60 → μ0.1 28 i = H.2.2.2.1 1 i := (hC.2.2.2.2.2.2.2.2.1.1 1 (by decide)).2.2
  have hfm := (hC.2.2.2.2.2.2.2.2.2 1 (by decide)).1
  refine zq_go zt_X4_lay 3 [] (if ¬ (μ0.1 27 1) = 0 then 18 else 7) [(0, .ref 27), (1, .int (nI k)), (2, .int v)] [] μ0 rfl trivial ?_
  rw [hs1]
  refine zq_ite (fun h7 => ?_) (fun h7 => ?_)
  · have h7 : ¬ H.2.1 1 = 0 := by
      rw [show (0 : Int32) = nI 0 from rfl, zn_eq (by omega) (by omega)] at h7
      exact h7
    refine zq_go zt_X4_lay 7 [] (if ¬ (μ0.1 27 1) = (nI 1) then 36 else 31) [(0, .ref 27), (1, .int (nI k)), (2, .int v)] [.int (nI k), .ref 28] μ0 rfl trivial ?_
    rw [hs1]
    refine zq_ite (fun h13 => ?_) (fun h13 => ?_)
    · have e0 : znr (H.2.1 1) v = v := by
        unfold znr
        rw [if_neg h7, if_neg (by rw [zn_eq (by omega) (by omega)] at h13; omega)]
      rw [e0]
      refine zq_go zt_X4_lay 2 [vp_in (nI k) 60] 38 [(0, .ref 27), (1, .int (nI k)), (2, .int v)] [] (zq_u1 μ0 28 ((nI k).toNatClampNeg) v) rfl ⟨zn_in (k := k) rfl (by omega) (by decide), trivial⟩ ?_
      rw [zn_cl (n := k) (by omega)]
      exact zq_retn zt_X4_lay rfl rfl (⟨rfl, rfl⟩)
    · have e0 : znr (H.2.1 1) v = v.toInt16.toInt32 := by
        unfold znr
        rw [if_neg h7, if_pos (by rw [zn_eq (by omega) (by omega)] at h13; omega)]
      rw [e0]
      refine zq_go zt_X4_lay 3 [] 37 [(0, .ref 27), (1, .int (nI k)), (2, .int v)] [.int v.toInt16.toInt32, .int (nI k), .ref 28] μ0 rfl trivial ?_
      refine zq_go zt_X4_lay 1 [vp_in (nI k) 60] 38 [(0, .ref 27), (1, .int (nI k)), (2, .int v)] [] (zq_u1 μ0 28 ((nI k).toNatClampNeg) v.toInt16.toInt32) rfl ⟨zn_in (k := k) rfl (by omega) (by decide), trivial⟩ ?_
      rw [zn_cl (n := k) (by omega)]
      exact zq_retn zt_X4_lay rfl rfl (⟨rfl, rfl⟩)
  · have e0 : znr (H.2.1 1) v = v.toInt8.toInt32 := if_pos (by rw [show (0 : Int32) = nI 0 from rfl, zn_eq (by omega) (by omega)] at h7; omega)
    rw [e0]
    refine zq_go zt_X4_lay 7 [vp_in (nI k) 60] 38 [(0, .ref 27), (1, .int (nI k)), (2, .int v)] [] (zq_u1 μ0 28 ((nI k).toNatClampNeg) v.toInt8.toInt32) rfl ⟨zn_in (k := k) rfl (by omega) (by decide), trivial⟩ ?_
    rw [zn_cl (n := k) (by omega)]
    exact zq_retn zt_X4_lay rfl rfl (⟨rfl, rfl⟩)
set_option maxRecDepth 100000 in
set_option maxHeartbeats 400000 in
theorem zs_lay_2 {τ : zTd} {S : zES} {H : zSH} {μ0 : zq_Me} (ht : H.1 2 = true) {k : Nat} (lk : k < 60) (v : Int32) (hC : zIc τ S H μ0) : zq_Wp zn_X4_lay 0 [(0, .ref 29), (1, .int (nI k)), (2, .int v)] [] μ0 (fun r μ => r = none ∧ μ = zq_u1 μ0 30 k (znr (H.2.1 2) v)) := by
  have hz := (hC.2.2.2.2.2.2.2.2.2 2 (by decide)).2
  have hs1 : μ0.1 29 1 = nI (H.2.1 2) := ((hC.2.2.2.2.2.2.2.2.1.1 2 (by decide)).1 ht).1
  have hs2 : μ0.1 29 2 = nI (H.2.2.1 2) := ((hC.2.2.2.2.2.2.2.2.1.1 2 (by decide)).1 ht).2
  have hi : ∀ i, i < 60 → μ0.1 30 i = H.2.2.2.1 2 i := (hC.2.2.2.2.2.2.2.2.1.1 2 (by decide)).2.2
  have hfm := (hC.2.2.2.2.2.2.2.2.2 2 (by decide)).1
  refine zq_go zt_X4_lay 3 [] (if ¬ (μ0.1 29 1) = 0 then 18 else 7) [(0, .ref 29), (1, .int (nI k)), (2, .int v)] [] μ0 rfl trivial ?_
  rw [hs1]
  refine zq_ite (fun h7 => ?_) (fun h7 => ?_)
  · have h7 : ¬ H.2.1 2 = 0 := by
      rw [show (0 : Int32) = nI 0 from rfl, zn_eq (by omega) (by omega)] at h7
      exact h7
    refine zq_go zt_X4_lay 7 [] (if ¬ (μ0.1 29 1) = (nI 1) then 36 else 31) [(0, .ref 29), (1, .int (nI k)), (2, .int v)] [.int (nI k), .ref 30] μ0 rfl trivial ?_
    rw [hs1]
    refine zq_ite (fun h13 => ?_) (fun h13 => ?_)
    · have e0 : znr (H.2.1 2) v = v := by
        unfold znr
        rw [if_neg h7, if_neg (by rw [zn_eq (by omega) (by omega)] at h13; omega)]
      rw [e0]
      refine zq_go zt_X4_lay 2 [vp_in (nI k) 60] 38 [(0, .ref 29), (1, .int (nI k)), (2, .int v)] [] (zq_u1 μ0 30 ((nI k).toNatClampNeg) v) rfl ⟨zn_in (k := k) rfl (by omega) (by decide), trivial⟩ ?_
      rw [zn_cl (n := k) (by omega)]
      exact zq_retn zt_X4_lay rfl rfl (⟨rfl, rfl⟩)
    · have e0 : znr (H.2.1 2) v = v.toInt16.toInt32 := by
        unfold znr
        rw [if_neg h7, if_pos (by rw [zn_eq (by omega) (by omega)] at h13; omega)]
      rw [e0]
      refine zq_go zt_X4_lay 3 [] 37 [(0, .ref 29), (1, .int (nI k)), (2, .int v)] [.int v.toInt16.toInt32, .int (nI k), .ref 30] μ0 rfl trivial ?_
      refine zq_go zt_X4_lay 1 [vp_in (nI k) 60] 38 [(0, .ref 29), (1, .int (nI k)), (2, .int v)] [] (zq_u1 μ0 30 ((nI k).toNatClampNeg) v.toInt16.toInt32) rfl ⟨zn_in (k := k) rfl (by omega) (by decide), trivial⟩ ?_
      rw [zn_cl (n := k) (by omega)]
      exact zq_retn zt_X4_lay rfl rfl (⟨rfl, rfl⟩)
  · have e0 : znr (H.2.1 2) v = v.toInt8.toInt32 := if_pos (by rw [show (0 : Int32) = nI 0 from rfl, zn_eq (by omega) (by omega)] at h7; omega)
    rw [e0]
    refine zq_go zt_X4_lay 7 [vp_in (nI k) 60] 38 [(0, .ref 29), (1, .int (nI k)), (2, .int v)] [] (zq_u1 μ0 30 ((nI k).toNatClampNeg) v.toInt8.toInt32) rfl ⟨zn_in (k := k) rfl (by omega) (by decide), trivial⟩ ?_
    rw [zn_cl (n := k) (by omega)]
    exact zq_retn zt_X4_lay rfl rfl (⟨rfl, rfl⟩)
set_option maxRecDepth 100000 in
set_option maxHeartbeats 400000 in
theorem zs_lay_3 {τ : zTd} {S : zES} {H : zSH} {μ0 : zq_Me} (ht : H.1 3 = true) {k : Nat} (lk : k < 60) (v : Int32) (hC : zIc τ S H μ0) : zq_Wp zn_X4_lay 0 [(0, .ref 31), (1, .int (nI k)), (2, .int v)] [] μ0 (fun r μ => r = none ∧ μ = zq_u1 μ0 32 k (znr (H.2.1 3) v)) := by
  have hz := (hC.2.2.2.2.2.2.2.2.2 3 (by decide)).2
  have hs1 : μ0.1 31 1 = nI (H.2.1 3) := ((hC.2.2.2.2.2.2.2.2.1.1 3 (by decide)).1 ht).1
  have hs2 : μ0.1 31 2 = nI (H.2.2.1 3) := ((hC.2.2.2.2.2.2.2.2.1.1 3 (by decide)).1 ht).2
  have hi : ∀ i, i < 60 → μ0.1 32 i = H.2.2.2.1 3 i := (hC.2.2.2.2.2.2.2.2.1.1 3 (by decide)).2.2
  have hfm := (hC.2.2.2.2.2.2.2.2.2 3 (by decide)).1
  refine zq_go zt_X4_lay 3 [] (if ¬ (μ0.1 31 1) = 0 then 18 else 7) [(0, .ref 31), (1, .int (nI k)), (2, .int v)] [] μ0 rfl trivial ?_
  rw [hs1]
  refine zq_ite (fun h7 => ?_) (fun h7 => ?_)
  · have h7 : ¬ H.2.1 3 = 0 := by
      rw [show (0 : Int32) = nI 0 from rfl, zn_eq (by omega) (by omega)] at h7
      exact h7
    refine zq_go zt_X4_lay 7 [] (if ¬ (μ0.1 31 1) = (nI 1) then 36 else 31) [(0, .ref 31), (1, .int (nI k)), (2, .int v)] [.int (nI k), .ref 32] μ0 rfl trivial ?_
    rw [hs1]
    refine zq_ite (fun h13 => ?_) (fun h13 => ?_)
    · have e0 : znr (H.2.1 3) v = v := by
        unfold znr
        rw [if_neg h7, if_neg (by rw [zn_eq (by omega) (by omega)] at h13; omega)]
      rw [e0]
      refine zq_go zt_X4_lay 2 [vp_in (nI k) 60] 38 [(0, .ref 31), (1, .int (nI k)), (2, .int v)] [] (zq_u1 μ0 32 ((nI k).toNatClampNeg) v) rfl ⟨zn_in (k := k) rfl (by omega) (by decide), trivial⟩ ?_
      rw [zn_cl (n := k) (by omega)]
      exact zq_retn zt_X4_lay rfl rfl (⟨rfl, rfl⟩)
    · have e0 : znr (H.2.1 3) v = v.toInt16.toInt32 := by
        unfold znr
        rw [if_neg h7, if_pos (by rw [zn_eq (by omega) (by omega)] at h13; omega)]
      rw [e0]
      refine zq_go zt_X4_lay 3 [] 37 [(0, .ref 31), (1, .int (nI k)), (2, .int v)] [.int v.toInt16.toInt32, .int (nI k), .ref 32] μ0 rfl trivial ?_
      refine zq_go zt_X4_lay 1 [vp_in (nI k) 60] 38 [(0, .ref 31), (1, .int (nI k)), (2, .int v)] [] (zq_u1 μ0 32 ((nI k).toNatClampNeg) v.toInt16.toInt32) rfl ⟨zn_in (k := k) rfl (by omega) (by decide), trivial⟩ ?_
      rw [zn_cl (n := k) (by omega)]
      exact zq_retn zt_X4_lay rfl rfl (⟨rfl, rfl⟩)
  · have e0 : znr (H.2.1 3) v = v.toInt8.toInt32 := if_pos (by rw [show (0 : Int32) = nI 0 from rfl, zn_eq (by omega) (by omega)] at h7; omega)
    rw [e0]
    refine zq_go zt_X4_lay 7 [vp_in (nI k) 60] 38 [(0, .ref 31), (1, .int (nI k)), (2, .int v)] [] (zq_u1 μ0 32 ((nI k).toNatClampNeg) v.toInt8.toInt32) rfl ⟨zn_in (k := k) rfl (by omega) (by decide), trivial⟩ ?_
    rw [zn_cl (n := k) (by omega)]
    exact zq_retn zt_X4_lay rfl rfl (⟨rfl, rfl⟩)
set_option maxRecDepth 100000 in
set_option maxHeartbeats 400000 in
theorem zs_become_0 {τ : zTd} {S : zES} {H : zSH} {μ0 : zq_Me} {f n : Nat} (lf : f ≤ 2) (ln : n ≤ 60) (hC : zIc τ S H μ0) : zq_Wp zn_X4_become 0 [(0, .ref 25), (1, .int (nI f)), (2, .int (nI n))] [] μ0 (fun r μ => r = none ∧ zIc τ S (yhn H 0 f n) μ ∧ zq_fr zSC μ0 μ) := by
  refine zq_go zt_X4_become 9 [] 15 [(0, .ref 25), (1, .int (nI f)), (2, .int (nI n))] [.int (nI 0), .ref 26] (zq_u1 (zq_u1 μ0 25 1 (nI f)) 25 2 (nI n)) rfl trivial ?_
  obtain ⟨μ1, hμ1⟩ : ∃ k9 : zq_Me, k9 = (zq_u1 (zq_u1 μ0 25 1 (nI f)) 25 2 (nI n)) := ⟨_, rfl⟩
  rw [← hμ1]
  refine zq_call zt_X4_become [.ref 26, .int (nI 0)] [] (zs_fill26 (nI 0) μ1) rfl rfl ?_
  rintro _ μ2 ⟨rfl, f2, a2⟩
  have f1 : zq_fr [25, 26] μ0 μ1 := by rw [hμ1]; exact (zq_fr.rf.u1 (by simp)).u1 (by simp)
  have f9 : zq_fr [25, 26] μ0 μ2 := f1.tr (f2.wk (by simp))
  have hI : zIc τ S (yhn H 0 f n) μ2 := hC.nw (s := 0) (by decide) lf ln f9 (by rw [f2.a (b := 25 + 2 * 0) (by decide), hμ1, zq_u1_o2 (by decide), zq_u1_s]) (by rw [f2.a (b := 25 + 2 * 0) (by decide), hμ1, zq_u1_s]) a2
  exact zq_retn zt_X4_become rfl rfl (⟨rfl, hI, f9.wk (by simp [zSC])⟩)
set_option maxRecDepth 100000 in
set_option maxHeartbeats 400000 in
theorem zs_become_1 {τ : zTd} {S : zES} {H : zSH} {μ0 : zq_Me} {f n : Nat} (lf : f ≤ 2) (ln : n ≤ 60) (hC : zIc τ S H μ0) : zq_Wp zn_X4_become 0 [(0, .ref 27), (1, .int (nI f)), (2, .int (nI n))] [] μ0 (fun r μ => r = none ∧ zIc τ S (yhn H 1 f n) μ ∧ zq_fr zSC μ0 μ) := by
  refine zq_go zt_X4_become 9 [] 15 [(0, .ref 27), (1, .int (nI f)), (2, .int (nI n))] [.int (nI 0), .ref 28] (zq_u1 (zq_u1 μ0 27 1 (nI f)) 27 2 (nI n)) rfl trivial ?_
  obtain ⟨μ1, hμ1⟩ : ∃ k9 : zq_Me, k9 = (zq_u1 (zq_u1 μ0 27 1 (nI f)) 27 2 (nI n)) := ⟨_, rfl⟩
  rw [← hμ1]
  refine zq_call zt_X4_become [.ref 28, .int (nI 0)] [] (zs_fill28 (nI 0) μ1) rfl rfl ?_
  rintro _ μ2 ⟨rfl, f2, a2⟩
  have f1 : zq_fr [27, 28] μ0 μ1 := by rw [hμ1]; exact (zq_fr.rf.u1 (by simp)).u1 (by simp)
  have f9 : zq_fr [27, 28] μ0 μ2 := f1.tr (f2.wk (by simp))
  have hI : zIc τ S (yhn H 1 f n) μ2 := hC.nw (s := 1) (by decide) lf ln f9 (by rw [f2.a (b := 25 + 2 * 1) (by decide), hμ1, zq_u1_o2 (by decide), zq_u1_s]) (by rw [f2.a (b := 25 + 2 * 1) (by decide), hμ1, zq_u1_s]) a2
  exact zq_retn zt_X4_become rfl rfl (⟨rfl, hI, f9.wk (by simp [zSC])⟩)
set_option maxRecDepth 100000 in
set_option maxHeartbeats 400000 in
theorem zs_become_2 {τ : zTd} {S : zES} {H : zSH} {μ0 : zq_Me} {f n : Nat} (lf : f ≤ 2) (ln : n ≤ 60) (hC : zIc τ S H μ0) : zq_Wp zn_X4_become 0 [(0, .ref 29), (1, .int (nI f)), (2, .int (nI n))] [] μ0 (fun r μ => r = none ∧ zIc τ S (yhn H 2 f n) μ ∧ zq_fr zSC μ0 μ) := by
  refine zq_go zt_X4_become 9 [] 15 [(0, .ref 29), (1, .int (nI f)), (2, .int (nI n))] [.int (nI 0), .ref 30] (zq_u1 (zq_u1 μ0 29 1 (nI f)) 29 2 (nI n)) rfl trivial ?_
  obtain ⟨μ1, hμ1⟩ : ∃ k9 : zq_Me, k9 = (zq_u1 (zq_u1 μ0 29 1 (nI f)) 29 2 (nI n)) := ⟨_, rfl⟩
  rw [← hμ1]
  refine zq_call zt_X4_become [.ref 30, .int (nI 0)] [] (zs_fill30 (nI 0) μ1) rfl rfl ?_
  rintro _ μ2 ⟨rfl, f2, a2⟩
  have f1 : zq_fr [29, 30] μ0 μ1 := by rw [hμ1]; exact (zq_fr.rf.u1 (by simp)).u1 (by simp)
  have f9 : zq_fr [29, 30] μ0 μ2 := f1.tr (f2.wk (by simp))
  have hI : zIc τ S (yhn H 2 f n) μ2 := hC.nw (s := 2) (by decide) lf ln f9 (by rw [f2.a (b := 25 + 2 * 2) (by decide), hμ1, zq_u1_o2 (by decide), zq_u1_s]) (by rw [f2.a (b := 25 + 2 * 2) (by decide), hμ1, zq_u1_s]) a2
  exact zq_retn zt_X4_become rfl rfl (⟨rfl, hI, f9.wk (by simp [zSC])⟩)
set_option maxRecDepth 100000 in
set_option maxHeartbeats 400000 in
theorem zs_become_3 {τ : zTd} {S : zES} {H : zSH} {μ0 : zq_Me} {f n : Nat} (lf : f ≤ 2) (ln : n ≤ 60) (hC : zIc τ S H μ0) : zq_Wp zn_X4_become 0 [(0, .ref 31), (1, .int (nI f)), (2, .int (nI n))] [] μ0 (fun r μ => r = none ∧ zIc τ S (yhn H 3 f n) μ ∧ zq_fr zSC μ0 μ) := by
  refine zq_go zt_X4_become 9 [] 15 [(0, .ref 31), (1, .int (nI f)), (2, .int (nI n))] [.int (nI 0), .ref 32] (zq_u1 (zq_u1 μ0 31 1 (nI f)) 31 2 (nI n)) rfl trivial ?_
  obtain ⟨μ1, hμ1⟩ : ∃ k9 : zq_Me, k9 = (zq_u1 (zq_u1 μ0 31 1 (nI f)) 31 2 (nI n)) := ⟨_, rfl⟩
  rw [← hμ1]
  refine zq_call zt_X4_become [.ref 32, .int (nI 0)] [] (zs_fill32 (nI 0) μ1) rfl rfl ?_
  rintro _ μ2 ⟨rfl, f2, a2⟩
  have f1 : zq_fr [31, 32] μ0 μ1 := by rw [hμ1]; exact (zq_fr.rf.u1 (by simp)).u1 (by simp)
  have f9 : zq_fr [31, 32] μ0 μ2 := f1.tr (f2.wk (by simp))
  have hI : zIc τ S (yhn H 3 f n) μ2 := hC.nw (s := 3) (by decide) lf ln f9 (by rw [f2.a (b := 25 + 2 * 3) (by decide), hμ1, zq_u1_o2 (by decide), zq_u1_s]) (by rw [f2.a (b := 25 + 2 * 3) (by decide), hμ1, zq_u1_s]) a2
  exact zq_retn zt_X4_become rfl rfl (⟨rfl, hI, f9.wk (by simp [zSC])⟩)
set_option maxRecDepth 100000 in
set_option maxHeartbeats 400000 in
theorem zs_refusal_0 {τ : zTd} {S : zES} {H : zSH} {μ0 : zq_Me} {f : Nat} (lf : f ≤ 2) (i : Int32) (hC : zIc τ S H μ0) : zq_Wp zn_X8_refusalOfItem 0 [(0, .ref 0), (1, .int (nI 0)), (2, .int (nI f)), (3, .int i)] [] μ0 (zRc (.int (yan (ylk H 0 f i))) τ S (yhk H (ylk H 0 f i)) μ0) := by
  refine zq_go zt_X8_refusalOfItem 1 [] 1 [(0, .ref 0), (1, .int (nI 0)), (2, .int (nI f)), (3, .int i)] [.int (nI 0)] μ0 rfl trivial ?_
  refine zq_call zt_X8_refusalOfItem [.int (nI 0)] [] (zs_isSheet (nI 0) μ0) rfl rfl ?_
  rintro _ _ ⟨rfl, rfl⟩
  refine zq_go zt_X8_refusalOfItem 1 [] (if (zb (0 ≤ nI 0 ∧ nI 0 ≤ nI 3)) = 0 then 14 else 7) [(0, .ref 0), (1, .int (nI 0)), (2, .int (nI f)), (3, .int i)] [] μ0 rfl trivial ?_
  rw [if_neg (zb_n (yin (by omega) (by decide)))]
  refine zq_go zt_X8_refusalOfItem 1 [] 8 [(0, .ref 0), (1, .int (nI 0)), (2, .int (nI f)), (3, .int i)] [.int (nI f)] μ0 rfl trivial ?_
  refine zq_call zt_X8_refusalOfItem [.int (nI f)] [] (zs_isForm (nI f) μ0) rfl rfl ?_
  rintro _ _ ⟨rfl, rfl⟩
  refine zq_go zt_X8_refusalOfItem 1 [] (if ¬ (zb (0 ≤ nI f ∧ nI f ≤ nI 2)) = 0 then 17 else 14) [(0, .ref 0), (1, .int (nI 0)), (2, .int (nI f)), (3, .int i)] [] μ0 rfl trivial ?_
  rw [if_pos (zb_n (yin (by omega) (by decide)))]
  by_cases ht : H.1 0 = true
  · have hz := (hC.2.2.2.2.2.2.2.2.2 0 (by decide)).2
    have hs1 : μ0.1 25 1 = nI (H.2.1 0) := ((hC.2.2.2.2.2.2.2.2.1.1 0 (by decide)).1 ht).1
    have hs2 : μ0.1 25 2 = nI (H.2.2.1 0) := ((hC.2.2.2.2.2.2.2.2.1.1 0 (by decide)).1 ht).2
    have hi : ∀ i, i < 60 → μ0.1 26 i = H.2.2.2.1 0 i := (hC.2.2.2.2.2.2.2.2.1.1 0 (by decide)).2.2
    have hfm := (hC.2.2.2.2.2.2.2.2.2 0 (by decide)).1
    refine zq_go zt_X8_refusalOfItem 6 [vp_in (nI 0) 4] 27 [(0, .ref 0), (1, .int (nI 0)), (2, .int (nI f)), (3, .int i), (4, .ref 25)] [.ref 25] μ0 rfl ⟨zn_in rfl (by decide) (by decide), trivial⟩ ?_
    refine zq_call zt_X8_refusalOfItem [.ref 25] [] (zs_isLost_0 ht hC) rfl rfl ?_
    rintro _ _ ⟨rfl, rfl⟩
    refine zq_go zt_X8_refusalOfItem 1 [] (if (nI 0) = 0 then 39 else 33) [(0, .ref 0), (1, .int (nI 0)), (2, .int (nI f)), (3, .int i), (4, .ref 25)] [] μ0 rfl trivial ?_
    rw [if_pos (by decide)]
    refine zq_go zt_X8_refusalOfItem 4 [] (if (μ0.1 25 1) = (nI f) then 54 else 48) [(0, .ref 0), (1, .int (nI 0)), (2, .int (nI f)), (3, .int i), (4, .ref 25)] [] μ0 rfl trivial ?_
    rw [hs1]
    by_cases hq : H.2.1 0 = f
    · rw [if_pos (by rw [hq])]
      refine zq_go zt_X8_refusalOfItem 3 [] 58 [(0, .ref 0), (1, .int (nI 0)), (2, .int (nI f)), (3, .int i), (4, .ref 25)] [.int (nI 1), .int i, .ref 25] μ0 rfl trivial ?_
      refine zq_call zt_X8_refusalOfItem [.ref 25, .int i, .int (nI 1)] [] (zs_holds_0 ht i (nI 1) hC) rfl rfl ?_
      rintro _ _ ⟨rfl, rfl⟩
      refine zq_go zt_X8_refusalOfItem 1 [] (if (zb (yfit (H.2.2.1 0) i (nI 1))) = 0 then 68 else 64) [(0, .ref 0), (1, .int (nI 0)), (2, .int (nI f)), (3, .int i), (4, .ref 25)] [] μ0 rfl trivial ?_
      by_cases hy : yfit (H.2.2.1 0) i (nI 1)
      · rw [show ylk H 0 f i = 0 by unfold ylk; rw [if_pos ht, if_pos hq, if_pos hy]]
        rw [if_neg (zb_n hy)]
        refine zq_go zt_X8_refusalOfItem 2 [] 73 [(0, .ref 0), (1, .int (nI 0)), (2, .int (nI f)), (3, .int i), (4, .ref 25)] [.int (nI 0)] μ0 rfl trivial ?_
        exact zq_retn zt_X8_refusalOfItem rfl rfl (⟨rfl, hC, zq_fr.rf⟩)
      · rw [show ylk H 0 f i = 2 by unfold ylk; rw [if_pos ht, if_pos hq, if_neg hy]]
        rw [if_pos (zb_f hy)]
        refine zq_go zt_X8_refusalOfItem 2 [] 70 [(0, .ref 0), (1, .int (nI 0)), (2, .int (nI f)), (3, .int i), (4, .ref 25)] [.int (nI 2), .ref 0] μ0 rfl trivial ?_
        refine zq_call zt_X8_refusalOfItem [.ref 0, .int (nI 2)] [] (zs_refuse 2 hC) rfl rfl ?_
        rintro _ μ1 ⟨rfl, hC1, f1⟩
        exact zq_retn zt_X8_refusalOfItem rfl rfl (⟨rfl, hC1, f1⟩)
    · rw [show ylk H 0 f i = 3 by unfold ylk; rw [if_pos ht, if_neg hq]]
      rw [if_neg (fun q => hq (by rw [zn_eq (by omega) (by omega)] at q; exact q))]
      refine zq_go zt_X8_refusalOfItem 2 [] 50 [(0, .ref 0), (1, .int (nI 0)), (2, .int (nI f)), (3, .int i), (4, .ref 25)] [.int (nI 3), .ref 0] μ0 rfl trivial ?_
      refine zq_call zt_X8_refusalOfItem [.ref 0, .int (nI 3)] [] (zs_refuse 3 hC) rfl rfl ?_
      rintro _ μ1 ⟨rfl, hC1, f1⟩
      exact zq_retn zt_X8_refusalOfItem rfl rfl (⟨rfl, hC1, f1⟩)
  · rw [show ylk H 0 f i = 1 from if_neg ht]
    refine zq_go zt_X8_refusalOfItem 6 [vp_in (nI 0) 4] 27 [(0, .ref 0), (1, .int (nI 0)), (2, .int (nI f)), (3, .int i), (4, .ref 25)] [.ref 25] μ0 rfl ⟨zn_in rfl (by decide) (by decide), trivial⟩ ?_
    refine zq_call zt_X8_refusalOfItem [.ref 25] [] (zs_isLostN_0 (yfalse ht) hC) rfl rfl ?_
    rintro _ _ ⟨rfl, rfl⟩
    refine zq_go zt_X8_refusalOfItem 1 [] (if (nI 1) = 0 then 39 else 33) [(0, .ref 0), (1, .int (nI 0)), (2, .int (nI f)), (3, .int i), (4, .ref 25)] [] μ0 rfl trivial ?_
    rw [if_neg (by decide)]
    refine zq_go zt_X8_refusalOfItem 2 [] 35 [(0, .ref 0), (1, .int (nI 0)), (2, .int (nI f)), (3, .int i), (4, .ref 25)] [.int (nI 1), .ref 0] μ0 rfl trivial ?_
    refine zq_call zt_X8_refusalOfItem [.ref 0, .int (nI 1)] [] (zs_refuse 1 hC) rfl rfl ?_
    rintro _ μ1 ⟨rfl, hC1, f1⟩
    exact zq_retn zt_X8_refusalOfItem rfl rfl (⟨rfl, hC1, f1⟩)
set_option maxRecDepth 100000 in
set_option maxHeartbeats 400000 in
theorem zs_refusal_1 {τ : zTd} {S : zES} {H : zSH} {μ0 : zq_Me} {f : Nat} (lf : f ≤ 2) (i : Int32) (hC : zIc τ S H μ0) : zq_Wp zn_X8_refusalOfItem 0 [(0, .ref 0), (1, .int (nI 1)), (2, .int (nI f)), (3, .int i)] [] μ0 (zRc (.int (yan (ylk H 1 f i))) τ S (yhk H (ylk H 1 f i)) μ0) := by
  refine zq_go zt_X8_refusalOfItem 1 [] 1 [(0, .ref 0), (1, .int (nI 1)), (2, .int (nI f)), (3, .int i)] [.int (nI 1)] μ0 rfl trivial ?_
  refine zq_call zt_X8_refusalOfItem [.int (nI 1)] [] (zs_isSheet (nI 1) μ0) rfl rfl ?_
  rintro _ _ ⟨rfl, rfl⟩
  refine zq_go zt_X8_refusalOfItem 1 [] (if (zb (0 ≤ nI 1 ∧ nI 1 ≤ nI 3)) = 0 then 14 else 7) [(0, .ref 0), (1, .int (nI 1)), (2, .int (nI f)), (3, .int i)] [] μ0 rfl trivial ?_
  rw [if_neg (zb_n (yin (by omega) (by decide)))]
  refine zq_go zt_X8_refusalOfItem 1 [] 8 [(0, .ref 0), (1, .int (nI 1)), (2, .int (nI f)), (3, .int i)] [.int (nI f)] μ0 rfl trivial ?_
  refine zq_call zt_X8_refusalOfItem [.int (nI f)] [] (zs_isForm (nI f) μ0) rfl rfl ?_
  rintro _ _ ⟨rfl, rfl⟩
  refine zq_go zt_X8_refusalOfItem 1 [] (if ¬ (zb (0 ≤ nI f ∧ nI f ≤ nI 2)) = 0 then 17 else 14) [(0, .ref 0), (1, .int (nI 1)), (2, .int (nI f)), (3, .int i)] [] μ0 rfl trivial ?_
  rw [if_pos (zb_n (yin (by omega) (by decide)))]
  by_cases ht : H.1 1 = true
  · have hz := (hC.2.2.2.2.2.2.2.2.2 1 (by decide)).2
    have hs1 : μ0.1 27 1 = nI (H.2.1 1) := ((hC.2.2.2.2.2.2.2.2.1.1 1 (by decide)).1 ht).1
    have hs2 : μ0.1 27 2 = nI (H.2.2.1 1) := ((hC.2.2.2.2.2.2.2.2.1.1 1 (by decide)).1 ht).2
    have hi : ∀ i, i < 60 → μ0.1 28 i = H.2.2.2.1 1 i := (hC.2.2.2.2.2.2.2.2.1.1 1 (by decide)).2.2
    have hfm := (hC.2.2.2.2.2.2.2.2.2 1 (by decide)).1
    refine zq_go zt_X8_refusalOfItem 6 [vp_in (nI 1) 4] 27 [(0, .ref 0), (1, .int (nI 1)), (2, .int (nI f)), (3, .int i), (4, .ref 27)] [.ref 27] μ0 rfl ⟨zn_in rfl (by decide) (by decide), trivial⟩ ?_
    refine zq_call zt_X8_refusalOfItem [.ref 27] [] (zs_isLost_1 ht hC) rfl rfl ?_
    rintro _ _ ⟨rfl, rfl⟩
    refine zq_go zt_X8_refusalOfItem 1 [] (if (nI 0) = 0 then 39 else 33) [(0, .ref 0), (1, .int (nI 1)), (2, .int (nI f)), (3, .int i), (4, .ref 27)] [] μ0 rfl trivial ?_
    rw [if_pos (by decide)]
    refine zq_go zt_X8_refusalOfItem 4 [] (if (μ0.1 27 1) = (nI f) then 54 else 48) [(0, .ref 0), (1, .int (nI 1)), (2, .int (nI f)), (3, .int i), (4, .ref 27)] [] μ0 rfl trivial ?_
    rw [hs1]
    by_cases hq : H.2.1 1 = f
    · rw [if_pos (by rw [hq])]
      refine zq_go zt_X8_refusalOfItem 3 [] 58 [(0, .ref 0), (1, .int (nI 1)), (2, .int (nI f)), (3, .int i), (4, .ref 27)] [.int (nI 1), .int i, .ref 27] μ0 rfl trivial ?_
      refine zq_call zt_X8_refusalOfItem [.ref 27, .int i, .int (nI 1)] [] (zs_holds_1 ht i (nI 1) hC) rfl rfl ?_
      rintro _ _ ⟨rfl, rfl⟩
      refine zq_go zt_X8_refusalOfItem 1 [] (if (zb (yfit (H.2.2.1 1) i (nI 1))) = 0 then 68 else 64) [(0, .ref 0), (1, .int (nI 1)), (2, .int (nI f)), (3, .int i), (4, .ref 27)] [] μ0 rfl trivial ?_
      by_cases hy : yfit (H.2.2.1 1) i (nI 1)
      · rw [show ylk H 1 f i = 0 by unfold ylk; rw [if_pos ht, if_pos hq, if_pos hy]]
        rw [if_neg (zb_n hy)]
        refine zq_go zt_X8_refusalOfItem 2 [] 73 [(0, .ref 0), (1, .int (nI 1)), (2, .int (nI f)), (3, .int i), (4, .ref 27)] [.int (nI 0)] μ0 rfl trivial ?_
        exact zq_retn zt_X8_refusalOfItem rfl rfl (⟨rfl, hC, zq_fr.rf⟩)
      · rw [show ylk H 1 f i = 2 by unfold ylk; rw [if_pos ht, if_pos hq, if_neg hy]]
        rw [if_pos (zb_f hy)]
        refine zq_go zt_X8_refusalOfItem 2 [] 70 [(0, .ref 0), (1, .int (nI 1)), (2, .int (nI f)), (3, .int i), (4, .ref 27)] [.int (nI 2), .ref 0] μ0 rfl trivial ?_
        refine zq_call zt_X8_refusalOfItem [.ref 0, .int (nI 2)] [] (zs_refuse 2 hC) rfl rfl ?_
        rintro _ μ1 ⟨rfl, hC1, f1⟩
        exact zq_retn zt_X8_refusalOfItem rfl rfl (⟨rfl, hC1, f1⟩)
    · rw [show ylk H 1 f i = 3 by unfold ylk; rw [if_pos ht, if_neg hq]]
      rw [if_neg (fun q => hq (by rw [zn_eq (by omega) (by omega)] at q; exact q))]
      refine zq_go zt_X8_refusalOfItem 2 [] 50 [(0, .ref 0), (1, .int (nI 1)), (2, .int (nI f)), (3, .int i), (4, .ref 27)] [.int (nI 3), .ref 0] μ0 rfl trivial ?_
      refine zq_call zt_X8_refusalOfItem [.ref 0, .int (nI 3)] [] (zs_refuse 3 hC) rfl rfl ?_
      rintro _ μ1 ⟨rfl, hC1, f1⟩
      exact zq_retn zt_X8_refusalOfItem rfl rfl (⟨rfl, hC1, f1⟩)
  · rw [show ylk H 1 f i = 1 from if_neg ht]
    refine zq_go zt_X8_refusalOfItem 6 [vp_in (nI 1) 4] 27 [(0, .ref 0), (1, .int (nI 1)), (2, .int (nI f)), (3, .int i), (4, .ref 27)] [.ref 27] μ0 rfl ⟨zn_in rfl (by decide) (by decide), trivial⟩ ?_
    refine zq_call zt_X8_refusalOfItem [.ref 27] [] (zs_isLostN_1 (yfalse ht) hC) rfl rfl ?_
    rintro _ _ ⟨rfl, rfl⟩
    refine zq_go zt_X8_refusalOfItem 1 [] (if (nI 1) = 0 then 39 else 33) [(0, .ref 0), (1, .int (nI 1)), (2, .int (nI f)), (3, .int i), (4, .ref 27)] [] μ0 rfl trivial ?_
    rw [if_neg (by decide)]
    refine zq_go zt_X8_refusalOfItem 2 [] 35 [(0, .ref 0), (1, .int (nI 1)), (2, .int (nI f)), (3, .int i), (4, .ref 27)] [.int (nI 1), .ref 0] μ0 rfl trivial ?_
    refine zq_call zt_X8_refusalOfItem [.ref 0, .int (nI 1)] [] (zs_refuse 1 hC) rfl rfl ?_
    rintro _ μ1 ⟨rfl, hC1, f1⟩
    exact zq_retn zt_X8_refusalOfItem rfl rfl (⟨rfl, hC1, f1⟩)
set_option maxRecDepth 100000 in
set_option maxHeartbeats 400000 in
theorem zs_refusal_2 {τ : zTd} {S : zES} {H : zSH} {μ0 : zq_Me} {f : Nat} (lf : f ≤ 2) (i : Int32) (hC : zIc τ S H μ0) : zq_Wp zn_X8_refusalOfItem 0 [(0, .ref 0), (1, .int (nI 2)), (2, .int (nI f)), (3, .int i)] [] μ0 (zRc (.int (yan (ylk H 2 f i))) τ S (yhk H (ylk H 2 f i)) μ0) := by
  refine zq_go zt_X8_refusalOfItem 1 [] 1 [(0, .ref 0), (1, .int (nI 2)), (2, .int (nI f)), (3, .int i)] [.int (nI 2)] μ0 rfl trivial ?_
  refine zq_call zt_X8_refusalOfItem [.int (nI 2)] [] (zs_isSheet (nI 2) μ0) rfl rfl ?_
  rintro _ _ ⟨rfl, rfl⟩
  refine zq_go zt_X8_refusalOfItem 1 [] (if (zb (0 ≤ nI 2 ∧ nI 2 ≤ nI 3)) = 0 then 14 else 7) [(0, .ref 0), (1, .int (nI 2)), (2, .int (nI f)), (3, .int i)] [] μ0 rfl trivial ?_
  rw [if_neg (zb_n (yin (by omega) (by decide)))]
  refine zq_go zt_X8_refusalOfItem 1 [] 8 [(0, .ref 0), (1, .int (nI 2)), (2, .int (nI f)), (3, .int i)] [.int (nI f)] μ0 rfl trivial ?_
  refine zq_call zt_X8_refusalOfItem [.int (nI f)] [] (zs_isForm (nI f) μ0) rfl rfl ?_
  rintro _ _ ⟨rfl, rfl⟩
  refine zq_go zt_X8_refusalOfItem 1 [] (if ¬ (zb (0 ≤ nI f ∧ nI f ≤ nI 2)) = 0 then 17 else 14) [(0, .ref 0), (1, .int (nI 2)), (2, .int (nI f)), (3, .int i)] [] μ0 rfl trivial ?_
  rw [if_pos (zb_n (yin (by omega) (by decide)))]
  by_cases ht : H.1 2 = true
  · have hz := (hC.2.2.2.2.2.2.2.2.2 2 (by decide)).2
    have hs1 : μ0.1 29 1 = nI (H.2.1 2) := ((hC.2.2.2.2.2.2.2.2.1.1 2 (by decide)).1 ht).1
    have hs2 : μ0.1 29 2 = nI (H.2.2.1 2) := ((hC.2.2.2.2.2.2.2.2.1.1 2 (by decide)).1 ht).2
    have hi : ∀ i, i < 60 → μ0.1 30 i = H.2.2.2.1 2 i := (hC.2.2.2.2.2.2.2.2.1.1 2 (by decide)).2.2
    have hfm := (hC.2.2.2.2.2.2.2.2.2 2 (by decide)).1
    refine zq_go zt_X8_refusalOfItem 6 [vp_in (nI 2) 4] 27 [(0, .ref 0), (1, .int (nI 2)), (2, .int (nI f)), (3, .int i), (4, .ref 29)] [.ref 29] μ0 rfl ⟨zn_in rfl (by decide) (by decide), trivial⟩ ?_
    refine zq_call zt_X8_refusalOfItem [.ref 29] [] (zs_isLost_2 ht hC) rfl rfl ?_
    rintro _ _ ⟨rfl, rfl⟩
    refine zq_go zt_X8_refusalOfItem 1 [] (if (nI 0) = 0 then 39 else 33) [(0, .ref 0), (1, .int (nI 2)), (2, .int (nI f)), (3, .int i), (4, .ref 29)] [] μ0 rfl trivial ?_
    rw [if_pos (by decide)]
    refine zq_go zt_X8_refusalOfItem 4 [] (if (μ0.1 29 1) = (nI f) then 54 else 48) [(0, .ref 0), (1, .int (nI 2)), (2, .int (nI f)), (3, .int i), (4, .ref 29)] [] μ0 rfl trivial ?_
    rw [hs1]
    by_cases hq : H.2.1 2 = f
    · rw [if_pos (by rw [hq])]
      refine zq_go zt_X8_refusalOfItem 3 [] 58 [(0, .ref 0), (1, .int (nI 2)), (2, .int (nI f)), (3, .int i), (4, .ref 29)] [.int (nI 1), .int i, .ref 29] μ0 rfl trivial ?_
      refine zq_call zt_X8_refusalOfItem [.ref 29, .int i, .int (nI 1)] [] (zs_holds_2 ht i (nI 1) hC) rfl rfl ?_
      rintro _ _ ⟨rfl, rfl⟩
      refine zq_go zt_X8_refusalOfItem 1 [] (if (zb (yfit (H.2.2.1 2) i (nI 1))) = 0 then 68 else 64) [(0, .ref 0), (1, .int (nI 2)), (2, .int (nI f)), (3, .int i), (4, .ref 29)] [] μ0 rfl trivial ?_
      by_cases hy : yfit (H.2.2.1 2) i (nI 1)
      · rw [show ylk H 2 f i = 0 by unfold ylk; rw [if_pos ht, if_pos hq, if_pos hy]]
        rw [if_neg (zb_n hy)]
        refine zq_go zt_X8_refusalOfItem 2 [] 73 [(0, .ref 0), (1, .int (nI 2)), (2, .int (nI f)), (3, .int i), (4, .ref 29)] [.int (nI 0)] μ0 rfl trivial ?_
        exact zq_retn zt_X8_refusalOfItem rfl rfl (⟨rfl, hC, zq_fr.rf⟩)
      · rw [show ylk H 2 f i = 2 by unfold ylk; rw [if_pos ht, if_pos hq, if_neg hy]]
        rw [if_pos (zb_f hy)]
        refine zq_go zt_X8_refusalOfItem 2 [] 70 [(0, .ref 0), (1, .int (nI 2)), (2, .int (nI f)), (3, .int i), (4, .ref 29)] [.int (nI 2), .ref 0] μ0 rfl trivial ?_
        refine zq_call zt_X8_refusalOfItem [.ref 0, .int (nI 2)] [] (zs_refuse 2 hC) rfl rfl ?_
        rintro _ μ1 ⟨rfl, hC1, f1⟩
        exact zq_retn zt_X8_refusalOfItem rfl rfl (⟨rfl, hC1, f1⟩)
    · rw [show ylk H 2 f i = 3 by unfold ylk; rw [if_pos ht, if_neg hq]]
      rw [if_neg (fun q => hq (by rw [zn_eq (by omega) (by omega)] at q; exact q))]
      refine zq_go zt_X8_refusalOfItem 2 [] 50 [(0, .ref 0), (1, .int (nI 2)), (2, .int (nI f)), (3, .int i), (4, .ref 29)] [.int (nI 3), .ref 0] μ0 rfl trivial ?_
      refine zq_call zt_X8_refusalOfItem [.ref 0, .int (nI 3)] [] (zs_refuse 3 hC) rfl rfl ?_
      rintro _ μ1 ⟨rfl, hC1, f1⟩
      exact zq_retn zt_X8_refusalOfItem rfl rfl (⟨rfl, hC1, f1⟩)
  · rw [show ylk H 2 f i = 1 from if_neg ht]
    refine zq_go zt_X8_refusalOfItem 6 [vp_in (nI 2) 4] 27 [(0, .ref 0), (1, .int (nI 2)), (2, .int (nI f)), (3, .int i), (4, .ref 29)] [.ref 29] μ0 rfl ⟨zn_in rfl (by decide) (by decide), trivial⟩ ?_
    refine zq_call zt_X8_refusalOfItem [.ref 29] [] (zs_isLostN_2 (yfalse ht) hC) rfl rfl ?_
    rintro _ _ ⟨rfl, rfl⟩
    refine zq_go zt_X8_refusalOfItem 1 [] (if (nI 1) = 0 then 39 else 33) [(0, .ref 0), (1, .int (nI 2)), (2, .int (nI f)), (3, .int i), (4, .ref 29)] [] μ0 rfl trivial ?_
    rw [if_neg (by decide)]
    refine zq_go zt_X8_refusalOfItem 2 [] 35 [(0, .ref 0), (1, .int (nI 2)), (2, .int (nI f)), (3, .int i), (4, .ref 29)] [.int (nI 1), .ref 0] μ0 rfl trivial ?_
    refine zq_call zt_X8_refusalOfItem [.ref 0, .int (nI 1)] [] (zs_refuse 1 hC) rfl rfl ?_
    rintro _ μ1 ⟨rfl, hC1, f1⟩
    exact zq_retn zt_X8_refusalOfItem rfl rfl (⟨rfl, hC1, f1⟩)
set_option maxRecDepth 100000 in
set_option maxHeartbeats 400000 in
theorem zs_refusal_3 {τ : zTd} {S : zES} {H : zSH} {μ0 : zq_Me} {f : Nat} (lf : f ≤ 2) (i : Int32) (hC : zIc τ S H μ0) : zq_Wp zn_X8_refusalOfItem 0 [(0, .ref 0), (1, .int (nI 3)), (2, .int (nI f)), (3, .int i)] [] μ0 (zRc (.int (yan (ylk H 3 f i))) τ S (yhk H (ylk H 3 f i)) μ0) := by
  refine zq_go zt_X8_refusalOfItem 1 [] 1 [(0, .ref 0), (1, .int (nI 3)), (2, .int (nI f)), (3, .int i)] [.int (nI 3)] μ0 rfl trivial ?_
  refine zq_call zt_X8_refusalOfItem [.int (nI 3)] [] (zs_isSheet (nI 3) μ0) rfl rfl ?_
  rintro _ _ ⟨rfl, rfl⟩
  refine zq_go zt_X8_refusalOfItem 1 [] (if (zb (0 ≤ nI 3 ∧ nI 3 ≤ nI 3)) = 0 then 14 else 7) [(0, .ref 0), (1, .int (nI 3)), (2, .int (nI f)), (3, .int i)] [] μ0 rfl trivial ?_
  rw [if_neg (zb_n (yin (by omega) (by decide)))]
  refine zq_go zt_X8_refusalOfItem 1 [] 8 [(0, .ref 0), (1, .int (nI 3)), (2, .int (nI f)), (3, .int i)] [.int (nI f)] μ0 rfl trivial ?_
  refine zq_call zt_X8_refusalOfItem [.int (nI f)] [] (zs_isForm (nI f) μ0) rfl rfl ?_
  rintro _ _ ⟨rfl, rfl⟩
  refine zq_go zt_X8_refusalOfItem 1 [] (if ¬ (zb (0 ≤ nI f ∧ nI f ≤ nI 2)) = 0 then 17 else 14) [(0, .ref 0), (1, .int (nI 3)), (2, .int (nI f)), (3, .int i)] [] μ0 rfl trivial ?_
  rw [if_pos (zb_n (yin (by omega) (by decide)))]
  by_cases ht : H.1 3 = true
  · have hz := (hC.2.2.2.2.2.2.2.2.2 3 (by decide)).2
    have hs1 : μ0.1 31 1 = nI (H.2.1 3) := ((hC.2.2.2.2.2.2.2.2.1.1 3 (by decide)).1 ht).1
    have hs2 : μ0.1 31 2 = nI (H.2.2.1 3) := ((hC.2.2.2.2.2.2.2.2.1.1 3 (by decide)).1 ht).2
    have hi : ∀ i, i < 60 → μ0.1 32 i = H.2.2.2.1 3 i := (hC.2.2.2.2.2.2.2.2.1.1 3 (by decide)).2.2
    have hfm := (hC.2.2.2.2.2.2.2.2.2 3 (by decide)).1
    refine zq_go zt_X8_refusalOfItem 6 [vp_in (nI 3) 4] 27 [(0, .ref 0), (1, .int (nI 3)), (2, .int (nI f)), (3, .int i), (4, .ref 31)] [.ref 31] μ0 rfl ⟨zn_in rfl (by decide) (by decide), trivial⟩ ?_
    refine zq_call zt_X8_refusalOfItem [.ref 31] [] (zs_isLost_3 ht hC) rfl rfl ?_
    rintro _ _ ⟨rfl, rfl⟩
    refine zq_go zt_X8_refusalOfItem 1 [] (if (nI 0) = 0 then 39 else 33) [(0, .ref 0), (1, .int (nI 3)), (2, .int (nI f)), (3, .int i), (4, .ref 31)] [] μ0 rfl trivial ?_
    rw [if_pos (by decide)]
    refine zq_go zt_X8_refusalOfItem 4 [] (if (μ0.1 31 1) = (nI f) then 54 else 48) [(0, .ref 0), (1, .int (nI 3)), (2, .int (nI f)), (3, .int i), (4, .ref 31)] [] μ0 rfl trivial ?_
    rw [hs1]
    by_cases hq : H.2.1 3 = f
    · rw [if_pos (by rw [hq])]
      refine zq_go zt_X8_refusalOfItem 3 [] 58 [(0, .ref 0), (1, .int (nI 3)), (2, .int (nI f)), (3, .int i), (4, .ref 31)] [.int (nI 1), .int i, .ref 31] μ0 rfl trivial ?_
      refine zq_call zt_X8_refusalOfItem [.ref 31, .int i, .int (nI 1)] [] (zs_holds_3 ht i (nI 1) hC) rfl rfl ?_
      rintro _ _ ⟨rfl, rfl⟩
      refine zq_go zt_X8_refusalOfItem 1 [] (if (zb (yfit (H.2.2.1 3) i (nI 1))) = 0 then 68 else 64) [(0, .ref 0), (1, .int (nI 3)), (2, .int (nI f)), (3, .int i), (4, .ref 31)] [] μ0 rfl trivial ?_
      by_cases hy : yfit (H.2.2.1 3) i (nI 1)
      · rw [show ylk H 3 f i = 0 by unfold ylk; rw [if_pos ht, if_pos hq, if_pos hy]]
        rw [if_neg (zb_n hy)]
        refine zq_go zt_X8_refusalOfItem 2 [] 73 [(0, .ref 0), (1, .int (nI 3)), (2, .int (nI f)), (3, .int i), (4, .ref 31)] [.int (nI 0)] μ0 rfl trivial ?_
        exact zq_retn zt_X8_refusalOfItem rfl rfl (⟨rfl, hC, zq_fr.rf⟩)
      · rw [show ylk H 3 f i = 2 by unfold ylk; rw [if_pos ht, if_pos hq, if_neg hy]]
        rw [if_pos (zb_f hy)]
        refine zq_go zt_X8_refusalOfItem 2 [] 70 [(0, .ref 0), (1, .int (nI 3)), (2, .int (nI f)), (3, .int i), (4, .ref 31)] [.int (nI 2), .ref 0] μ0 rfl trivial ?_
        refine zq_call zt_X8_refusalOfItem [.ref 0, .int (nI 2)] [] (zs_refuse 2 hC) rfl rfl ?_
        rintro _ μ1 ⟨rfl, hC1, f1⟩
        exact zq_retn zt_X8_refusalOfItem rfl rfl (⟨rfl, hC1, f1⟩)
    · rw [show ylk H 3 f i = 3 by unfold ylk; rw [if_pos ht, if_neg hq]]
      rw [if_neg (fun q => hq (by rw [zn_eq (by omega) (by omega)] at q; exact q))]
      refine zq_go zt_X8_refusalOfItem 2 [] 50 [(0, .ref 0), (1, .int (nI 3)), (2, .int (nI f)), (3, .int i), (4, .ref 31)] [.int (nI 3), .ref 0] μ0 rfl trivial ?_
      refine zq_call zt_X8_refusalOfItem [.ref 0, .int (nI 3)] [] (zs_refuse 3 hC) rfl rfl ?_
      rintro _ μ1 ⟨rfl, hC1, f1⟩
      exact zq_retn zt_X8_refusalOfItem rfl rfl (⟨rfl, hC1, f1⟩)
  · rw [show ylk H 3 f i = 1 from if_neg ht]
    refine zq_go zt_X8_refusalOfItem 6 [vp_in (nI 3) 4] 27 [(0, .ref 0), (1, .int (nI 3)), (2, .int (nI f)), (3, .int i), (4, .ref 31)] [.ref 31] μ0 rfl ⟨zn_in rfl (by decide) (by decide), trivial⟩ ?_
    refine zq_call zt_X8_refusalOfItem [.ref 31] [] (zs_isLostN_3 (yfalse ht) hC) rfl rfl ?_
    rintro _ _ ⟨rfl, rfl⟩
    refine zq_go zt_X8_refusalOfItem 1 [] (if (nI 1) = 0 then 39 else 33) [(0, .ref 0), (1, .int (nI 3)), (2, .int (nI f)), (3, .int i), (4, .ref 31)] [] μ0 rfl trivial ?_
    rw [if_neg (by decide)]
    refine zq_go zt_X8_refusalOfItem 2 [] 35 [(0, .ref 0), (1, .int (nI 3)), (2, .int (nI f)), (3, .int i), (4, .ref 31)] [.int (nI 1), .ref 0] μ0 rfl trivial ?_
    refine zq_call zt_X8_refusalOfItem [.ref 0, .int (nI 1)] [] (zs_refuse 1 hC) rfl rfl ?_
    rintro _ μ1 ⟨rfl, hC1, f1⟩
    exact zq_retn zt_X8_refusalOfItem rfl rfl (⟨rfl, hC1, f1⟩)
theorem zs_refusal {τ : zTd} {S : zES} {H : zSH} {μ0 : zq_Me} {s : Nat} (ls : s ≤ 3) {f : Nat} (lf : f ≤ 2) (i : Int32) (hC : zIc τ S H μ0) : zq_Wp zn_X8_refusalOfItem 0 [(0, .ref 0), (1, .int (nI s)), (2, .int (nI f)), (3, .int i)] [] μ0 (zRc (.int (yan (ylk H s f i))) τ S (yhk H (ylk H s f i)) μ0) := by
  obtain rfl | rfl | rfl | rfl : s = 0 ∨ s = 1 ∨ s = 2 ∨ s = 3 := by omega
  · exact zs_refusal_0 lf i hC
  · exact zs_refusal_1 lf i hC
  · exact zs_refusal_2 lf i hC
  · exact zs_refusal_3 lf i hC
set_option maxRecDepth 100000 in
set_option maxHeartbeats 400000 in
theorem zs_refusal_b (v1 v2 v3 : Int32) (hg : ¬ ((0 ≤ v1 ∧ v1 ≤ nI 3) ∧ (0 ≤ v2 ∧ v2 ≤ nI 2))) {τ : zTd} {S : zES} {H : zSH} {μ0 : zq_Me} (hC : zIc τ S H μ0) : zq_Wp zn_X8_refusalOfItem 0 [(0, .ref 0), (1, .int v1), (2, .int v2), (3, .int v3)] [] μ0 (zRc (.int (-2)) τ S H μ0) := by
  refine zq_go zt_X8_refusalOfItem 1 [] 1 [(0, .ref 0), (1, .int v1), (2, .int v2), (3, .int v3)] [.int v1] μ0 rfl trivial ?_
  refine zq_call zt_X8_refusalOfItem [.int v1] [] (zs_isSheet v1 μ0) rfl rfl ?_
  rintro _ _ ⟨rfl, rfl⟩
  refine zq_go zt_X8_refusalOfItem 1 [] (if (zb (0 ≤ v1 ∧ v1 ≤ nI 3)) = 0 then 14 else 7) [(0, .ref 0), (1, .int v1), (2, .int v2), (3, .int v3)] [] μ0 rfl trivial ?_
  refine zq_ite (fun h4 => ?_) (fun h4 => ?_)
  · refine zq_go zt_X8_refusalOfItem 1 [] 16 [(0, .ref 0), (1, .int v1), (2, .int v2), (3, .int v3)] [.int (-2)] μ0 rfl trivial ?_
    exact zq_retn zt_X8_refusalOfItem rfl rfl (⟨rfl, hC, zq_fr.rf⟩)
  · have g0 := zb_p h4
    refine zq_go zt_X8_refusalOfItem 1 [] 8 [(0, .ref 0), (1, .int v1), (2, .int v2), (3, .int v3)] [.int v2] μ0 rfl trivial ?_
    refine zq_call zt_X8_refusalOfItem [.int v2] [] (zs_isForm v2 μ0) rfl rfl ?_
    rintro _ _ ⟨rfl, rfl⟩
    refine zq_go zt_X8_refusalOfItem 1 [] (if ¬ (zb (0 ≤ v2 ∧ v2 ≤ nI 2)) = 0 then 17 else 14) [(0, .ref 0), (1, .int v1), (2, .int v2), (3, .int v3)] [] μ0 rfl trivial ?_
    refine zq_ite (fun h12 => ?_) (fun h12 => ?_)
    · have g1 := zb_p h12
      exact absurd ⟨g0, g1⟩ hg
    · refine zq_go zt_X8_refusalOfItem 1 [] 16 [(0, .ref 0), (1, .int v1), (2, .int v2), (3, .int v3)] [.int (-2)] μ0 rfl trivial ?_
      exact zq_retn zt_X8_refusalOfItem rfl rfl (⟨rfl, hC, zq_fr.rf⟩)
set_option maxRecDepth 100000 in
set_option maxHeartbeats 400000 in
theorem zs_put_0 {τ : zTd} {S : zES} {H : zSH} {μ0 : zq_Me} {f k : Nat} (lf : f ≤ 2) (ht : H.1 0 = true) (lk : k < H.2.2.1 0) (hl : ylk H 0 f (nI k) = 0) (v : Int32) (hC : zIc τ S H μ0) : zq_Wp zn_X8_put 0 [(0, .ref 0), (1, .int (nI 0)), (2, .int (nI f)), (3, .int (nI k)), (4, .int v)] [] μ0 (zRc (.int (nI 1)) τ S (yhi H 0 (fun j => if j = k then znr (H.2.1 0) v else H.2.2.2.1 0 j)) μ0) := by
  refine zq_go zt_X8_put 4 [] 4 [(0, .ref 0), (1, .int (nI 0)), (2, .int (nI f)), (3, .int (nI k)), (4, .int v)] [.int (nI k), .int (nI f), .int (nI 0), .ref 0] μ0 rfl trivial ?_
  refine zq_call zt_X8_put [.ref 0, .int (nI 0), .int (nI f), .int (nI k)] [] (zs_refusal_0 lf (nI k) hC) rfl rfl ?_
  rintro _ μ1 ⟨rfl, hC1, f1⟩
  rw [hl] at hC1
  rw [hl]
  have hC2 : zIc τ S H μ1 := hC1
  refine zq_go zt_X8_put 3 [] (if 0 ≤ (yan 0) then 17 else 14) [(0, .ref 0), (1, .int (nI 0)), (2, .int (nI f)), (3, .int (nI k)), (4, .int v), (5, .int (yan 0))] [] μ1 rfl trivial ?_
  rw [if_pos (by decide)]
  refine zq_go zt_X8_put 6 [vp_in (nI 0) 4] 26 [(0, .ref 0), (1, .int (nI 0)), (2, .int (nI f)), (3, .int (nI k)), (4, .int v), (5, .int (yan 0))] [.int v, .int (nI k), .ref 25] μ1 rfl ⟨zn_in rfl (by decide) (by decide), trivial⟩ ?_
  refine zq_call zt_X8_put [.ref 25, .int (nI k), .int v] [] (zs_lay_0 ht (show k < 60 by have := (hC.2.2.2.2.2.2.2.2.2 0 (by decide)).2; omega) v hC2) rfl rfl ?_
  rintro _ μ2 ⟨rfl, e2⟩
  have f2 : zq_fr [26 + 2 * 0] μ1 μ2 := by rw [e2]; exact zq_fr.rf.u1 (by simp)
  have hI := hC2.it (s := 0) (by decide) (fun j => if j = k then znr (H.2.1 0) v else H.2.2.2.1 0 j) f2 (fun j hj => by rw [e2, zq_u1_rd, (hC2.2.2.2.2.2.2.2.2.1.1 0 (by decide)).2.2 j hj])
  refine zq_go zt_X8_put 1 [] 30 [(0, .ref 0), (1, .int (nI 0)), (2, .int (nI f)), (3, .int (nI k)), (4, .int v), (5, .int (yan 0))] [.int (nI 1)] μ2 rfl trivial ?_
  exact zq_retn zt_X8_put rfl rfl (⟨rfl, hI, f1.tr (f2.wk (by simp [zSC]))⟩)
set_option maxRecDepth 100000 in
set_option maxHeartbeats 400000 in
theorem zs_put_1 {τ : zTd} {S : zES} {H : zSH} {μ0 : zq_Me} {f k : Nat} (lf : f ≤ 2) (ht : H.1 1 = true) (lk : k < H.2.2.1 1) (hl : ylk H 1 f (nI k) = 0) (v : Int32) (hC : zIc τ S H μ0) : zq_Wp zn_X8_put 0 [(0, .ref 0), (1, .int (nI 1)), (2, .int (nI f)), (3, .int (nI k)), (4, .int v)] [] μ0 (zRc (.int (nI 1)) τ S (yhi H 1 (fun j => if j = k then znr (H.2.1 1) v else H.2.2.2.1 1 j)) μ0) := by
  refine zq_go zt_X8_put 4 [] 4 [(0, .ref 0), (1, .int (nI 1)), (2, .int (nI f)), (3, .int (nI k)), (4, .int v)] [.int (nI k), .int (nI f), .int (nI 1), .ref 0] μ0 rfl trivial ?_
  refine zq_call zt_X8_put [.ref 0, .int (nI 1), .int (nI f), .int (nI k)] [] (zs_refusal_1 lf (nI k) hC) rfl rfl ?_
  rintro _ μ1 ⟨rfl, hC1, f1⟩
  rw [hl] at hC1
  rw [hl]
  have hC2 : zIc τ S H μ1 := hC1
  refine zq_go zt_X8_put 3 [] (if 0 ≤ (yan 0) then 17 else 14) [(0, .ref 0), (1, .int (nI 1)), (2, .int (nI f)), (3, .int (nI k)), (4, .int v), (5, .int (yan 0))] [] μ1 rfl trivial ?_
  rw [if_pos (by decide)]
  refine zq_go zt_X8_put 6 [vp_in (nI 1) 4] 26 [(0, .ref 0), (1, .int (nI 1)), (2, .int (nI f)), (3, .int (nI k)), (4, .int v), (5, .int (yan 0))] [.int v, .int (nI k), .ref 27] μ1 rfl ⟨zn_in rfl (by decide) (by decide), trivial⟩ ?_
  refine zq_call zt_X8_put [.ref 27, .int (nI k), .int v] [] (zs_lay_1 ht (show k < 60 by have := (hC.2.2.2.2.2.2.2.2.2 1 (by decide)).2; omega) v hC2) rfl rfl ?_
  rintro _ μ2 ⟨rfl, e2⟩
  have f2 : zq_fr [26 + 2 * 1] μ1 μ2 := by rw [e2]; exact zq_fr.rf.u1 (by simp)
  have hI := hC2.it (s := 1) (by decide) (fun j => if j = k then znr (H.2.1 1) v else H.2.2.2.1 1 j) f2 (fun j hj => by rw [e2, zq_u1_rd, (hC2.2.2.2.2.2.2.2.2.1.1 1 (by decide)).2.2 j hj])
  refine zq_go zt_X8_put 1 [] 30 [(0, .ref 0), (1, .int (nI 1)), (2, .int (nI f)), (3, .int (nI k)), (4, .int v), (5, .int (yan 0))] [.int (nI 1)] μ2 rfl trivial ?_
  exact zq_retn zt_X8_put rfl rfl (⟨rfl, hI, f1.tr (f2.wk (by simp [zSC]))⟩)
set_option maxRecDepth 100000 in
set_option maxHeartbeats 400000 in
theorem zs_put_2 {τ : zTd} {S : zES} {H : zSH} {μ0 : zq_Me} {f k : Nat} (lf : f ≤ 2) (ht : H.1 2 = true) (lk : k < H.2.2.1 2) (hl : ylk H 2 f (nI k) = 0) (v : Int32) (hC : zIc τ S H μ0) : zq_Wp zn_X8_put 0 [(0, .ref 0), (1, .int (nI 2)), (2, .int (nI f)), (3, .int (nI k)), (4, .int v)] [] μ0 (zRc (.int (nI 1)) τ S (yhi H 2 (fun j => if j = k then znr (H.2.1 2) v else H.2.2.2.1 2 j)) μ0) := by
  refine zq_go zt_X8_put 4 [] 4 [(0, .ref 0), (1, .int (nI 2)), (2, .int (nI f)), (3, .int (nI k)), (4, .int v)] [.int (nI k), .int (nI f), .int (nI 2), .ref 0] μ0 rfl trivial ?_
  refine zq_call zt_X8_put [.ref 0, .int (nI 2), .int (nI f), .int (nI k)] [] (zs_refusal_2 lf (nI k) hC) rfl rfl ?_
  rintro _ μ1 ⟨rfl, hC1, f1⟩
  rw [hl] at hC1
  rw [hl]
  have hC2 : zIc τ S H μ1 := hC1
  refine zq_go zt_X8_put 3 [] (if 0 ≤ (yan 0) then 17 else 14) [(0, .ref 0), (1, .int (nI 2)), (2, .int (nI f)), (3, .int (nI k)), (4, .int v), (5, .int (yan 0))] [] μ1 rfl trivial ?_
  rw [if_pos (by decide)]
  refine zq_go zt_X8_put 6 [vp_in (nI 2) 4] 26 [(0, .ref 0), (1, .int (nI 2)), (2, .int (nI f)), (3, .int (nI k)), (4, .int v), (5, .int (yan 0))] [.int v, .int (nI k), .ref 29] μ1 rfl ⟨zn_in rfl (by decide) (by decide), trivial⟩ ?_
  refine zq_call zt_X8_put [.ref 29, .int (nI k), .int v] [] (zs_lay_2 ht (show k < 60 by have := (hC.2.2.2.2.2.2.2.2.2 2 (by decide)).2; omega) v hC2) rfl rfl ?_
  rintro _ μ2 ⟨rfl, e2⟩
  have f2 : zq_fr [26 + 2 * 2] μ1 μ2 := by rw [e2]; exact zq_fr.rf.u1 (by simp)
  have hI := hC2.it (s := 2) (by decide) (fun j => if j = k then znr (H.2.1 2) v else H.2.2.2.1 2 j) f2 (fun j hj => by rw [e2, zq_u1_rd, (hC2.2.2.2.2.2.2.2.2.1.1 2 (by decide)).2.2 j hj])
  refine zq_go zt_X8_put 1 [] 30 [(0, .ref 0), (1, .int (nI 2)), (2, .int (nI f)), (3, .int (nI k)), (4, .int v), (5, .int (yan 0))] [.int (nI 1)] μ2 rfl trivial ?_
  exact zq_retn zt_X8_put rfl rfl (⟨rfl, hI, f1.tr (f2.wk (by simp [zSC]))⟩)
set_option maxRecDepth 100000 in
set_option maxHeartbeats 400000 in
theorem zs_put_3 {τ : zTd} {S : zES} {H : zSH} {μ0 : zq_Me} {f k : Nat} (lf : f ≤ 2) (ht : H.1 3 = true) (lk : k < H.2.2.1 3) (hl : ylk H 3 f (nI k) = 0) (v : Int32) (hC : zIc τ S H μ0) : zq_Wp zn_X8_put 0 [(0, .ref 0), (1, .int (nI 3)), (2, .int (nI f)), (3, .int (nI k)), (4, .int v)] [] μ0 (zRc (.int (nI 1)) τ S (yhi H 3 (fun j => if j = k then znr (H.2.1 3) v else H.2.2.2.1 3 j)) μ0) := by
  refine zq_go zt_X8_put 4 [] 4 [(0, .ref 0), (1, .int (nI 3)), (2, .int (nI f)), (3, .int (nI k)), (4, .int v)] [.int (nI k), .int (nI f), .int (nI 3), .ref 0] μ0 rfl trivial ?_
  refine zq_call zt_X8_put [.ref 0, .int (nI 3), .int (nI f), .int (nI k)] [] (zs_refusal_3 lf (nI k) hC) rfl rfl ?_
  rintro _ μ1 ⟨rfl, hC1, f1⟩
  rw [hl] at hC1
  rw [hl]
  have hC2 : zIc τ S H μ1 := hC1
  refine zq_go zt_X8_put 3 [] (if 0 ≤ (yan 0) then 17 else 14) [(0, .ref 0), (1, .int (nI 3)), (2, .int (nI f)), (3, .int (nI k)), (4, .int v), (5, .int (yan 0))] [] μ1 rfl trivial ?_
  rw [if_pos (by decide)]
  refine zq_go zt_X8_put 6 [vp_in (nI 3) 4] 26 [(0, .ref 0), (1, .int (nI 3)), (2, .int (nI f)), (3, .int (nI k)), (4, .int v), (5, .int (yan 0))] [.int v, .int (nI k), .ref 31] μ1 rfl ⟨zn_in rfl (by decide) (by decide), trivial⟩ ?_
  refine zq_call zt_X8_put [.ref 31, .int (nI k), .int v] [] (zs_lay_3 ht (show k < 60 by have := (hC.2.2.2.2.2.2.2.2.2 3 (by decide)).2; omega) v hC2) rfl rfl ?_
  rintro _ μ2 ⟨rfl, e2⟩
  have f2 : zq_fr [26 + 2 * 3] μ1 μ2 := by rw [e2]; exact zq_fr.rf.u1 (by simp)
  have hI := hC2.it (s := 3) (by decide) (fun j => if j = k then znr (H.2.1 3) v else H.2.2.2.1 3 j) f2 (fun j hj => by rw [e2, zq_u1_rd, (hC2.2.2.2.2.2.2.2.2.1.1 3 (by decide)).2.2 j hj])
  refine zq_go zt_X8_put 1 [] 30 [(0, .ref 0), (1, .int (nI 3)), (2, .int (nI f)), (3, .int (nI k)), (4, .int v), (5, .int (yan 0))] [.int (nI 1)] μ2 rfl trivial ?_
  exact zq_retn zt_X8_put rfl rfl (⟨rfl, hI, f1.tr (f2.wk (by simp [zSC]))⟩)
theorem zs_put {τ : zTd} {S : zES} {H : zSH} {μ0 : zq_Me} {s : Nat} (ls : s ≤ 3) {f k : Nat} (lf : f ≤ 2) (ht : H.1 s = true) (lk : k < H.2.2.1 s) (hl : ylk H s f (nI k) = 0) (v : Int32) (hC : zIc τ S H μ0) : zq_Wp zn_X8_put 0 [(0, .ref 0), (1, .int (nI s)), (2, .int (nI f)), (3, .int (nI k)), (4, .int v)] [] μ0 (zRc (.int (nI 1)) τ S (yhi H s (fun j => if j = k then znr (H.2.1 s) v else H.2.2.2.1 s j)) μ0) := by
  obtain rfl | rfl | rfl | rfl : s = 0 ∨ s = 1 ∨ s = 2 ∨ s = 3 := by omega
  · exact zs_put_0 lf ht lk hl v hC
  · exact zs_put_1 lf ht lk hl v hC
  · exact zs_put_2 lf ht lk hl v hC
  · exact zs_put_3 lf ht lk hl v hC
set_option maxRecDepth 100000 in
set_option maxHeartbeats 400000 in
theorem zs_put_n {τ : zTd} {S : zES} {H : zSH} {μ0 : zq_Me} {s : Nat} {f : Nat} (ls : s ≤ 3) (lf : f ≤ 2) (i : Int32) (hl : ylk H s f i ≠ 0) (v : Int32) (hC : zIc τ S H μ0) : zq_Wp zn_X8_put 0 [(0, .ref 0), (1, .int (nI s)), (2, .int (nI f)), (3, .int i), (4, .int v)] [] μ0 (zRc (.int (yan (ylk H s f i))) τ S (yhk H (ylk H s f i)) μ0) := by
  refine zq_go zt_X8_put 4 [] 4 [(0, .ref 0), (1, .int (nI s)), (2, .int (nI f)), (3, .int i), (4, .int v)] [.int i, .int (nI f), .int (nI s), .ref 0] μ0 rfl trivial ?_
  refine zq_call zt_X8_put [.ref 0, .int (nI s), .int (nI f), .int i] [] (zs_refusal ls lf (i) hC) rfl rfl ?_
  rintro _ μ1 ⟨rfl, hC1, f1⟩
  refine zq_go zt_X8_put 3 [] (if 0 ≤ (yan (ylk H s f (i))) then 17 else 14) [(0, .ref 0), (1, .int (nI s)), (2, .int (nI f)), (3, .int i), (4, .int v), (5, .int (yan (ylk H s f (i))))] [] μ1 rfl trivial ?_
  rw [if_neg (yan_n _ (Nat.lt_trans (ylk_4 _ _ _ _) (by decide)) hl)]
  refine zq_go zt_X8_put 1 [] 16 [(0, .ref 0), (1, .int (nI s)), (2, .int (nI f)), (3, .int i), (4, .int v), (5, .int (yan (ylk H s f (i))))] [.int (yan (ylk H s f (i)))] μ1 rfl trivial ?_
  exact zq_retn zt_X8_put rfl rfl (⟨rfl, hC1, f1⟩)
set_option maxRecDepth 100000 in
set_option maxHeartbeats 400000 in
theorem zs_put_b {τ : zTd} {S : zES} {H : zSH} {μ0 : zq_Me} (v1 v2 v3 v4 : Int32) (hg : ¬ ((0 ≤ v1 ∧ v1 ≤ nI 3) ∧ (0 ≤ v2 ∧ v2 ≤ nI 2))) (hC : zIc τ S H μ0) : zq_Wp zn_X8_put 0 [(0, .ref 0), (1, .int v1), (2, .int v2), (3, .int v3), (4, .int v4)] [] μ0 (zRc (.int (-2)) τ S H μ0) := by
  refine zq_go zt_X8_put 4 [] 4 [(0, .ref 0), (1, .int v1), (2, .int v2), (3, .int v3), (4, .int v4)] [.int v3, .int v2, .int v1, .ref 0] μ0 rfl trivial ?_
  refine zq_call zt_X8_put [.ref 0, .int v1, .int v2, .int v3] [] (zs_refusal_b v1 v2 v3 hg hC) rfl rfl ?_
  rintro _ μ1 ⟨rfl, hC1, f1⟩
  refine zq_go zt_X8_put 3 [] (if 0 ≤ (-2) then 17 else 14) [(0, .ref 0), (1, .int v1), (2, .int v2), (3, .int v3), (4, .int v4), (5, .int (-2))] [] μ1 rfl trivial ?_
  rw [if_neg (by decide)]
  refine zq_go zt_X8_put 1 [] 16 [(0, .ref 0), (1, .int v1), (2, .int v2), (3, .int v3), (4, .int v4), (5, .int (-2))] [.int (-2)] μ1 rfl trivial ?_
  exact zq_retn zt_X8_put rfl rfl (⟨rfl, hC1, f1⟩)
set_option maxRecDepth 100000 in
set_option maxHeartbeats 400000 in
theorem zs_get_0 {τ : zTd} {S : zES} {H : zSH} {μ0 : zq_Me} {f k : Nat} (lf : f ≤ 2) (ht : H.1 0 = true) (lk : k < H.2.2.1 0) (hl : ylk H 0 f (nI k) = 0) (hC : zIc τ S H μ0) : zq_Wp zn_X8_get 0 [(0, .ref 0), (1, .int (nI 0)), (2, .int (nI f)), (3, .int (nI k))] [] μ0 (zRc (.int (H.2.2.2.1 0 k)) τ S H μ0) := by
  refine zq_go zt_X8_get 4 [] 4 [(0, .ref 0), (1, .int (nI 0)), (2, .int (nI f)), (3, .int (nI k))] [.int (nI k), .int (nI f), .int (nI 0), .ref 0] μ0 rfl trivial ?_
  refine zq_call zt_X8_get [.ref 0, .int (nI 0), .int (nI f), .int (nI k)] [] (zs_refusal_0 lf (nI k) hC) rfl rfl ?_
  rintro _ μ1 ⟨rfl, hC1, f1⟩
  rw [hl] at hC1
  rw [hl]
  have hC2 : zIc τ S H μ1 := hC1
  have hz := (hC.2.2.2.2.2.2.2.2.2 0 (by decide)).2
  have hi : ∀ i, i < 60 → μ1.1 26 i = H.2.2.2.1 0 i := (hC2.2.2.2.2.2.2.2.2.1.1 0 (by decide)).2.2
  refine zq_go zt_X8_get 1 [] (if 0 ≤ (yan 0) then 16 else 10) [(0, .ref 0), (1, .int (nI 0)), (2, .int (nI f)), (3, .int (nI k))] [] μ1 rfl trivial ?_
  rw [if_pos (by decide)]
  refine zq_go zt_X8_get 7 [vp_in (nI 0) 4, vp_in (nI k) 60] 27 [(0, .ref 0), (1, .int (nI 0)), (2, .int (nI f)), (3, .int (nI k))] [.int (μ1.1 26 ((nI k).toNatClampNeg))] μ1 rfl ⟨zn_in rfl (by decide) (by decide), ⟨zn_in (k := k) rfl (by omega) (by decide), trivial⟩⟩ ?_
  rw [zn_cl (n := k) (by omega), hi k (by omega)]
  exact zq_retn zt_X8_get rfl rfl (⟨rfl, hC2, f1⟩)
set_option maxRecDepth 100000 in
set_option maxHeartbeats 400000 in
theorem zs_get_1 {τ : zTd} {S : zES} {H : zSH} {μ0 : zq_Me} {f k : Nat} (lf : f ≤ 2) (ht : H.1 1 = true) (lk : k < H.2.2.1 1) (hl : ylk H 1 f (nI k) = 0) (hC : zIc τ S H μ0) : zq_Wp zn_X8_get 0 [(0, .ref 0), (1, .int (nI 1)), (2, .int (nI f)), (3, .int (nI k))] [] μ0 (zRc (.int (H.2.2.2.1 1 k)) τ S H μ0) := by
  refine zq_go zt_X8_get 4 [] 4 [(0, .ref 0), (1, .int (nI 1)), (2, .int (nI f)), (3, .int (nI k))] [.int (nI k), .int (nI f), .int (nI 1), .ref 0] μ0 rfl trivial ?_
  refine zq_call zt_X8_get [.ref 0, .int (nI 1), .int (nI f), .int (nI k)] [] (zs_refusal_1 lf (nI k) hC) rfl rfl ?_
  rintro _ μ1 ⟨rfl, hC1, f1⟩
  rw [hl] at hC1
  rw [hl]
  have hC2 : zIc τ S H μ1 := hC1
  have hz := (hC.2.2.2.2.2.2.2.2.2 1 (by decide)).2
  have hi : ∀ i, i < 60 → μ1.1 28 i = H.2.2.2.1 1 i := (hC2.2.2.2.2.2.2.2.2.1.1 1 (by decide)).2.2
  refine zq_go zt_X8_get 1 [] (if 0 ≤ (yan 0) then 16 else 10) [(0, .ref 0), (1, .int (nI 1)), (2, .int (nI f)), (3, .int (nI k))] [] μ1 rfl trivial ?_
  rw [if_pos (by decide)]
  refine zq_go zt_X8_get 7 [vp_in (nI 1) 4, vp_in (nI k) 60] 27 [(0, .ref 0), (1, .int (nI 1)), (2, .int (nI f)), (3, .int (nI k))] [.int (μ1.1 28 ((nI k).toNatClampNeg))] μ1 rfl ⟨zn_in rfl (by decide) (by decide), ⟨zn_in (k := k) rfl (by omega) (by decide), trivial⟩⟩ ?_
  rw [zn_cl (n := k) (by omega), hi k (by omega)]
  exact zq_retn zt_X8_get rfl rfl (⟨rfl, hC2, f1⟩)
set_option maxRecDepth 100000 in
set_option maxHeartbeats 400000 in
theorem zs_get_2 {τ : zTd} {S : zES} {H : zSH} {μ0 : zq_Me} {f k : Nat} (lf : f ≤ 2) (ht : H.1 2 = true) (lk : k < H.2.2.1 2) (hl : ylk H 2 f (nI k) = 0) (hC : zIc τ S H μ0) : zq_Wp zn_X8_get 0 [(0, .ref 0), (1, .int (nI 2)), (2, .int (nI f)), (3, .int (nI k))] [] μ0 (zRc (.int (H.2.2.2.1 2 k)) τ S H μ0) := by
  refine zq_go zt_X8_get 4 [] 4 [(0, .ref 0), (1, .int (nI 2)), (2, .int (nI f)), (3, .int (nI k))] [.int (nI k), .int (nI f), .int (nI 2), .ref 0] μ0 rfl trivial ?_
  refine zq_call zt_X8_get [.ref 0, .int (nI 2), .int (nI f), .int (nI k)] [] (zs_refusal_2 lf (nI k) hC) rfl rfl ?_
  rintro _ μ1 ⟨rfl, hC1, f1⟩
  rw [hl] at hC1
  rw [hl]
  have hC2 : zIc τ S H μ1 := hC1
  have hz := (hC.2.2.2.2.2.2.2.2.2 2 (by decide)).2
  have hi : ∀ i, i < 60 → μ1.1 30 i = H.2.2.2.1 2 i := (hC2.2.2.2.2.2.2.2.2.1.1 2 (by decide)).2.2
  refine zq_go zt_X8_get 1 [] (if 0 ≤ (yan 0) then 16 else 10) [(0, .ref 0), (1, .int (nI 2)), (2, .int (nI f)), (3, .int (nI k))] [] μ1 rfl trivial ?_
  rw [if_pos (by decide)]
  refine zq_go zt_X8_get 7 [vp_in (nI 2) 4, vp_in (nI k) 60] 27 [(0, .ref 0), (1, .int (nI 2)), (2, .int (nI f)), (3, .int (nI k))] [.int (μ1.1 30 ((nI k).toNatClampNeg))] μ1 rfl ⟨zn_in rfl (by decide) (by decide), ⟨zn_in (k := k) rfl (by omega) (by decide), trivial⟩⟩ ?_
  rw [zn_cl (n := k) (by omega), hi k (by omega)]
  exact zq_retn zt_X8_get rfl rfl (⟨rfl, hC2, f1⟩)
set_option maxRecDepth 100000 in
set_option maxHeartbeats 400000 in
theorem zs_get_3 {τ : zTd} {S : zES} {H : zSH} {μ0 : zq_Me} {f k : Nat} (lf : f ≤ 2) (ht : H.1 3 = true) (lk : k < H.2.2.1 3) (hl : ylk H 3 f (nI k) = 0) (hC : zIc τ S H μ0) : zq_Wp zn_X8_get 0 [(0, .ref 0), (1, .int (nI 3)), (2, .int (nI f)), (3, .int (nI k))] [] μ0 (zRc (.int (H.2.2.2.1 3 k)) τ S H μ0) := by
  refine zq_go zt_X8_get 4 [] 4 [(0, .ref 0), (1, .int (nI 3)), (2, .int (nI f)), (3, .int (nI k))] [.int (nI k), .int (nI f), .int (nI 3), .ref 0] μ0 rfl trivial ?_
  refine zq_call zt_X8_get [.ref 0, .int (nI 3), .int (nI f), .int (nI k)] [] (zs_refusal_3 lf (nI k) hC) rfl rfl ?_
  rintro _ μ1 ⟨rfl, hC1, f1⟩
  rw [hl] at hC1
  rw [hl]
  have hC2 : zIc τ S H μ1 := hC1
  have hz := (hC.2.2.2.2.2.2.2.2.2 3 (by decide)).2
  have hi : ∀ i, i < 60 → μ1.1 32 i = H.2.2.2.1 3 i := (hC2.2.2.2.2.2.2.2.2.1.1 3 (by decide)).2.2
  refine zq_go zt_X8_get 1 [] (if 0 ≤ (yan 0) then 16 else 10) [(0, .ref 0), (1, .int (nI 3)), (2, .int (nI f)), (3, .int (nI k))] [] μ1 rfl trivial ?_
  rw [if_pos (by decide)]
  refine zq_go zt_X8_get 7 [vp_in (nI 3) 4, vp_in (nI k) 60] 27 [(0, .ref 0), (1, .int (nI 3)), (2, .int (nI f)), (3, .int (nI k))] [.int (μ1.1 32 ((nI k).toNatClampNeg))] μ1 rfl ⟨zn_in rfl (by decide) (by decide), ⟨zn_in (k := k) rfl (by omega) (by decide), trivial⟩⟩ ?_
  rw [zn_cl (n := k) (by omega), hi k (by omega)]
  exact zq_retn zt_X8_get rfl rfl (⟨rfl, hC2, f1⟩)
theorem zs_get {τ : zTd} {S : zES} {H : zSH} {μ0 : zq_Me} {s : Nat} (ls : s ≤ 3) {f k : Nat} (lf : f ≤ 2) (ht : H.1 s = true) (lk : k < H.2.2.1 s) (hl : ylk H s f (nI k) = 0) (hC : zIc τ S H μ0) : zq_Wp zn_X8_get 0 [(0, .ref 0), (1, .int (nI s)), (2, .int (nI f)), (3, .int (nI k))] [] μ0 (zRc (.int (H.2.2.2.1 s k)) τ S H μ0) := by
  obtain rfl | rfl | rfl | rfl : s = 0 ∨ s = 1 ∨ s = 2 ∨ s = 3 := by omega
  · exact zs_get_0 lf ht lk hl hC
  · exact zs_get_1 lf ht lk hl hC
  · exact zs_get_2 lf ht lk hl hC
  · exact zs_get_3 lf ht lk hl hC
set_option maxRecDepth 100000 in
set_option maxHeartbeats 400000 in
theorem zs_get_n {τ : zTd} {S : zES} {H : zSH} {μ0 : zq_Me} {s : Nat} {f : Nat} (ls : s ≤ 3) (lf : f ≤ 2) (i : Int32) (hl : ylk H s f i ≠ 0) (hC : zIc τ S H μ0) : zq_Wp zn_X8_get 0 [(0, .ref 0), (1, .int (nI s)), (2, .int (nI f)), (3, .int i)] [] μ0 (zRc (.int (-2147483648)) τ S (yhk H (ylk H s f i)) μ0) := by
  refine zq_go zt_X8_get 4 [] 4 [(0, .ref 0), (1, .int (nI s)), (2, .int (nI f)), (3, .int i)] [.int i, .int (nI f), .int (nI s), .ref 0] μ0 rfl trivial ?_
  refine zq_call zt_X8_get [.ref 0, .int (nI s), .int (nI f), .int i] [] (zs_refusal ls lf (i) hC) rfl rfl ?_
  rintro _ μ1 ⟨rfl, hC1, f1⟩
  refine zq_go zt_X8_get 1 [] (if 0 ≤ (yan (ylk H s f (i))) then 16 else 10) [(0, .ref 0), (1, .int (nI s)), (2, .int (nI f)), (3, .int i)] [] μ1 rfl trivial ?_
  rw [if_neg (yan_n _ (Nat.lt_trans (ylk_4 _ _ _ _) (by decide)) hl)]
  refine zq_go zt_X8_get 2 [] 27 [(0, .ref 0), (1, .int (nI s)), (2, .int (nI f)), (3, .int i)] [.int (-2147483648)] μ1 rfl trivial ?_
  exact zq_retn zt_X8_get rfl rfl (⟨rfl, hC1, f1⟩)
set_option maxRecDepth 100000 in
set_option maxHeartbeats 400000 in
theorem zs_get_b {τ : zTd} {S : zES} {H : zSH} {μ0 : zq_Me} (v1 v2 v3 : Int32) (hg : ¬ ((0 ≤ v1 ∧ v1 ≤ nI 3) ∧ (0 ≤ v2 ∧ v2 ≤ nI 2))) (hC : zIc τ S H μ0) : zq_Wp zn_X8_get 0 [(0, .ref 0), (1, .int v1), (2, .int v2), (3, .int v3)] [] μ0 (zRc (.int (-2147483648)) τ S H μ0) := by
  refine zq_go zt_X8_get 4 [] 4 [(0, .ref 0), (1, .int v1), (2, .int v2), (3, .int v3)] [.int v3, .int v2, .int v1, .ref 0] μ0 rfl trivial ?_
  refine zq_call zt_X8_get [.ref 0, .int v1, .int v2, .int v3] [] (zs_refusal_b v1 v2 v3 hg hC) rfl rfl ?_
  rintro _ μ1 ⟨rfl, hC1, f1⟩
  refine zq_go zt_X8_get 1 [] (if 0 ≤ (-2) then 16 else 10) [(0, .ref 0), (1, .int v1), (2, .int v2), (3, .int v3)] [] μ1 rfl trivial ?_
  rw [if_neg (by decide)]
  refine zq_go zt_X8_get 2 [] 27 [(0, .ref 0), (1, .int v1), (2, .int v2), (3, .int v3)] [.int (-2147483648)] μ1 rfl trivial ?_
  exact zq_retn zt_X8_get rfl rfl (⟨rfl, hC1, f1⟩)
set_option maxRecDepth 100000 in
set_option maxHeartbeats 400000 in
theorem zs_lose_0 {τ : zTd} {S : zES} {H : zSH} {μ0 : zq_Me} (ht : H.1 0 = true) (hC : zIc τ S H μ0) : zq_Wp zn_X8_lose 0 [(0, .ref 0), (1, .int (nI 0))] [] μ0 (zRc (.int (nI (H.2.2.1 0))) τ S (yhl H 0) μ0) := by
  have hz := (hC.2.2.2.2.2.2.2.2.2 0 (by decide)).2
  have hs1 : μ0.1 25 1 = nI (H.2.1 0) := ((hC.2.2.2.2.2.2.2.2.1.1 0 (by decide)).1 ht).1
  have hs2 : μ0.1 25 2 = nI (H.2.2.1 0) := ((hC.2.2.2.2.2.2.2.2.1.1 0 (by decide)).1 ht).2
  have hi : ∀ i, i < 60 → μ0.1 26 i = H.2.2.2.1 0 i := (hC.2.2.2.2.2.2.2.2.1.1 0 (by decide)).2.2
  have hfm := (hC.2.2.2.2.2.2.2.2.2 0 (by decide)).1
  refine zq_go zt_X8_lose 1 [] 1 [(0, .ref 0), (1, .int (nI 0))] [.int (nI 0)] μ0 rfl trivial ?_
  refine zq_call zt_X8_lose [.int (nI 0)] [] (zs_isSheet (nI 0) μ0) rfl rfl ?_
  rintro _ _ ⟨rfl, rfl⟩
  refine zq_go zt_X8_lose 1 [] (if ¬ (zb (0 ≤ nI 0 ∧ nI 0 ≤ nI 3)) = 0 then 10 else 7) [(0, .ref 0), (1, .int (nI 0))] [] μ0 rfl trivial ?_
  rw [if_pos (zb_n (yin (by omega) (by decide)))]
  refine zq_go zt_X8_lose 6 [vp_in (nI 0) 4] 18 [(0, .ref 0), (1, .int (nI 0)), (2, .ref 25)] [.ref 25] μ0 rfl ⟨zn_in rfl (by decide) (by decide), trivial⟩ ?_
  refine zq_call zt_X8_lose [.ref 25] [] (zs_isLost_0 ht hC) rfl rfl ?_
  rintro _ _ ⟨rfl, rfl⟩
  refine zq_go zt_X8_lose 1 [] (if (nI 0) = 0 then 30 else 24) [(0, .ref 0), (1, .int (nI 0)), (2, .ref 25)] [] μ0 rfl trivial ?_
  rw [if_pos (by decide)]
  refine zq_go zt_X8_lose 7 [] 41 [(0, .ref 0), (1, .int (nI 0)), (2, .ref 25), (3, .int (μ0.1 25 2))] [.int (μ0.1 25 2)] (zq_u1 μ0 25 2 (-1)) rfl trivial ?_
  rw [hs2]
  obtain ⟨μ1, hμ1⟩ : ∃ k9 : zq_Me, k9 = (zq_u1 μ0 25 2 (-1)) := ⟨_, rfl⟩
  rw [← hμ1]
  have f1 : zq_fr [25 + 2 * 0] μ0 μ1 := by rw [hμ1]; exact zq_fr.rf.u1 (by simp)
  have hI := hC.ls (s := 0) (by decide) f1 (by rw [hμ1]; exact zq_u1_s)
  exact zq_retn zt_X8_lose rfl rfl (⟨rfl, hI, f1.wk (by simp [zSC])⟩)
set_option maxRecDepth 100000 in
set_option maxHeartbeats 400000 in
theorem zs_lose_1 {τ : zTd} {S : zES} {H : zSH} {μ0 : zq_Me} (ht : H.1 1 = true) (hC : zIc τ S H μ0) : zq_Wp zn_X8_lose 0 [(0, .ref 0), (1, .int (nI 1))] [] μ0 (zRc (.int (nI (H.2.2.1 1))) τ S (yhl H 1) μ0) := by
  have hz := (hC.2.2.2.2.2.2.2.2.2 1 (by decide)).2
  have hs1 : μ0.1 27 1 = nI (H.2.1 1) := ((hC.2.2.2.2.2.2.2.2.1.1 1 (by decide)).1 ht).1
  have hs2 : μ0.1 27 2 = nI (H.2.2.1 1) := ((hC.2.2.2.2.2.2.2.2.1.1 1 (by decide)).1 ht).2
  have hi : ∀ i, i < 60 → μ0.1 28 i = H.2.2.2.1 1 i := (hC.2.2.2.2.2.2.2.2.1.1 1 (by decide)).2.2
  have hfm := (hC.2.2.2.2.2.2.2.2.2 1 (by decide)).1
  refine zq_go zt_X8_lose 1 [] 1 [(0, .ref 0), (1, .int (nI 1))] [.int (nI 1)] μ0 rfl trivial ?_
  refine zq_call zt_X8_lose [.int (nI 1)] [] (zs_isSheet (nI 1) μ0) rfl rfl ?_
  rintro _ _ ⟨rfl, rfl⟩
  refine zq_go zt_X8_lose 1 [] (if ¬ (zb (0 ≤ nI 1 ∧ nI 1 ≤ nI 3)) = 0 then 10 else 7) [(0, .ref 0), (1, .int (nI 1))] [] μ0 rfl trivial ?_
  rw [if_pos (zb_n (yin (by omega) (by decide)))]
  refine zq_go zt_X8_lose 6 [vp_in (nI 1) 4] 18 [(0, .ref 0), (1, .int (nI 1)), (2, .ref 27)] [.ref 27] μ0 rfl ⟨zn_in rfl (by decide) (by decide), trivial⟩ ?_
  refine zq_call zt_X8_lose [.ref 27] [] (zs_isLost_1 ht hC) rfl rfl ?_
  rintro _ _ ⟨rfl, rfl⟩
  refine zq_go zt_X8_lose 1 [] (if (nI 0) = 0 then 30 else 24) [(0, .ref 0), (1, .int (nI 1)), (2, .ref 27)] [] μ0 rfl trivial ?_
  rw [if_pos (by decide)]
  refine zq_go zt_X8_lose 7 [] 41 [(0, .ref 0), (1, .int (nI 1)), (2, .ref 27), (3, .int (μ0.1 27 2))] [.int (μ0.1 27 2)] (zq_u1 μ0 27 2 (-1)) rfl trivial ?_
  rw [hs2]
  obtain ⟨μ1, hμ1⟩ : ∃ k9 : zq_Me, k9 = (zq_u1 μ0 27 2 (-1)) := ⟨_, rfl⟩
  rw [← hμ1]
  have f1 : zq_fr [25 + 2 * 1] μ0 μ1 := by rw [hμ1]; exact zq_fr.rf.u1 (by simp)
  have hI := hC.ls (s := 1) (by decide) f1 (by rw [hμ1]; exact zq_u1_s)
  exact zq_retn zt_X8_lose rfl rfl (⟨rfl, hI, f1.wk (by simp [zSC])⟩)
set_option maxRecDepth 100000 in
set_option maxHeartbeats 400000 in
theorem zs_lose_2 {τ : zTd} {S : zES} {H : zSH} {μ0 : zq_Me} (ht : H.1 2 = true) (hC : zIc τ S H μ0) : zq_Wp zn_X8_lose 0 [(0, .ref 0), (1, .int (nI 2))] [] μ0 (zRc (.int (nI (H.2.2.1 2))) τ S (yhl H 2) μ0) := by
  have hz := (hC.2.2.2.2.2.2.2.2.2 2 (by decide)).2
  have hs1 : μ0.1 29 1 = nI (H.2.1 2) := ((hC.2.2.2.2.2.2.2.2.1.1 2 (by decide)).1 ht).1
  have hs2 : μ0.1 29 2 = nI (H.2.2.1 2) := ((hC.2.2.2.2.2.2.2.2.1.1 2 (by decide)).1 ht).2
  have hi : ∀ i, i < 60 → μ0.1 30 i = H.2.2.2.1 2 i := (hC.2.2.2.2.2.2.2.2.1.1 2 (by decide)).2.2
  have hfm := (hC.2.2.2.2.2.2.2.2.2 2 (by decide)).1
  refine zq_go zt_X8_lose 1 [] 1 [(0, .ref 0), (1, .int (nI 2))] [.int (nI 2)] μ0 rfl trivial ?_
  refine zq_call zt_X8_lose [.int (nI 2)] [] (zs_isSheet (nI 2) μ0) rfl rfl ?_
  rintro _ _ ⟨rfl, rfl⟩
  refine zq_go zt_X8_lose 1 [] (if ¬ (zb (0 ≤ nI 2 ∧ nI 2 ≤ nI 3)) = 0 then 10 else 7) [(0, .ref 0), (1, .int (nI 2))] [] μ0 rfl trivial ?_
  rw [if_pos (zb_n (yin (by omega) (by decide)))]
  refine zq_go zt_X8_lose 6 [vp_in (nI 2) 4] 18 [(0, .ref 0), (1, .int (nI 2)), (2, .ref 29)] [.ref 29] μ0 rfl ⟨zn_in rfl (by decide) (by decide), trivial⟩ ?_
  refine zq_call zt_X8_lose [.ref 29] [] (zs_isLost_2 ht hC) rfl rfl ?_
  rintro _ _ ⟨rfl, rfl⟩
  refine zq_go zt_X8_lose 1 [] (if (nI 0) = 0 then 30 else 24) [(0, .ref 0), (1, .int (nI 2)), (2, .ref 29)] [] μ0 rfl trivial ?_
  rw [if_pos (by decide)]
  refine zq_go zt_X8_lose 7 [] 41 [(0, .ref 0), (1, .int (nI 2)), (2, .ref 29), (3, .int (μ0.1 29 2))] [.int (μ0.1 29 2)] (zq_u1 μ0 29 2 (-1)) rfl trivial ?_
  rw [hs2]
  obtain ⟨μ1, hμ1⟩ : ∃ k9 : zq_Me, k9 = (zq_u1 μ0 29 2 (-1)) := ⟨_, rfl⟩
  rw [← hμ1]
  have f1 : zq_fr [25 + 2 * 2] μ0 μ1 := by rw [hμ1]; exact zq_fr.rf.u1 (by simp)
  have hI := hC.ls (s := 2) (by decide) f1 (by rw [hμ1]; exact zq_u1_s)
  exact zq_retn zt_X8_lose rfl rfl (⟨rfl, hI, f1.wk (by simp [zSC])⟩)
set_option maxRecDepth 100000 in
set_option maxHeartbeats 400000 in
theorem zs_lose_3 {τ : zTd} {S : zES} {H : zSH} {μ0 : zq_Me} (ht : H.1 3 = true) (hC : zIc τ S H μ0) : zq_Wp zn_X8_lose 0 [(0, .ref 0), (1, .int (nI 3))] [] μ0 (zRc (.int (nI (H.2.2.1 3))) τ S (yhl H 3) μ0) := by
  have hz := (hC.2.2.2.2.2.2.2.2.2 3 (by decide)).2
  have hs1 : μ0.1 31 1 = nI (H.2.1 3) := ((hC.2.2.2.2.2.2.2.2.1.1 3 (by decide)).1 ht).1
  have hs2 : μ0.1 31 2 = nI (H.2.2.1 3) := ((hC.2.2.2.2.2.2.2.2.1.1 3 (by decide)).1 ht).2
  have hi : ∀ i, i < 60 → μ0.1 32 i = H.2.2.2.1 3 i := (hC.2.2.2.2.2.2.2.2.1.1 3 (by decide)).2.2
  have hfm := (hC.2.2.2.2.2.2.2.2.2 3 (by decide)).1
  refine zq_go zt_X8_lose 1 [] 1 [(0, .ref 0), (1, .int (nI 3))] [.int (nI 3)] μ0 rfl trivial ?_
  refine zq_call zt_X8_lose [.int (nI 3)] [] (zs_isSheet (nI 3) μ0) rfl rfl ?_
  rintro _ _ ⟨rfl, rfl⟩
  refine zq_go zt_X8_lose 1 [] (if ¬ (zb (0 ≤ nI 3 ∧ nI 3 ≤ nI 3)) = 0 then 10 else 7) [(0, .ref 0), (1, .int (nI 3))] [] μ0 rfl trivial ?_
  rw [if_pos (zb_n (yin (by omega) (by decide)))]
  refine zq_go zt_X8_lose 6 [vp_in (nI 3) 4] 18 [(0, .ref 0), (1, .int (nI 3)), (2, .ref 31)] [.ref 31] μ0 rfl ⟨zn_in rfl (by decide) (by decide), trivial⟩ ?_
  refine zq_call zt_X8_lose [.ref 31] [] (zs_isLost_3 ht hC) rfl rfl ?_
  rintro _ _ ⟨rfl, rfl⟩
  refine zq_go zt_X8_lose 1 [] (if (nI 0) = 0 then 30 else 24) [(0, .ref 0), (1, .int (nI 3)), (2, .ref 31)] [] μ0 rfl trivial ?_
  rw [if_pos (by decide)]
  refine zq_go zt_X8_lose 7 [] 41 [(0, .ref 0), (1, .int (nI 3)), (2, .ref 31), (3, .int (μ0.1 31 2))] [.int (μ0.1 31 2)] (zq_u1 μ0 31 2 (-1)) rfl trivial ?_
  rw [hs2]
  obtain ⟨μ1, hμ1⟩ : ∃ k9 : zq_Me, k9 = (zq_u1 μ0 31 2 (-1)) := ⟨_, rfl⟩
  rw [← hμ1]
  have f1 : zq_fr [25 + 2 * 3] μ0 μ1 := by rw [hμ1]; exact zq_fr.rf.u1 (by simp)
  have hI := hC.ls (s := 3) (by decide) f1 (by rw [hμ1]; exact zq_u1_s)
  exact zq_retn zt_X8_lose rfl rfl (⟨rfl, hI, f1.wk (by simp [zSC])⟩)
theorem zs_lose {τ : zTd} {S : zES} {H : zSH} {μ0 : zq_Me} {s : Nat} (ls : s ≤ 3) (ht : H.1 s = true) (hC : zIc τ S H μ0) : zq_Wp zn_X8_lose 0 [(0, .ref 0), (1, .int (nI s))] [] μ0 (zRc (.int (nI (H.2.2.1 s))) τ S (yhl H s) μ0) := by
  obtain rfl | rfl | rfl | rfl : s = 0 ∨ s = 1 ∨ s = 2 ∨ s = 3 := by omega
  · exact zs_lose_0 ht hC
  · exact zs_lose_1 ht hC
  · exact zs_lose_2 ht hC
  · exact zs_lose_3 ht hC
set_option maxRecDepth 100000 in
set_option maxHeartbeats 400000 in
theorem zs_lose_n_0 {τ : zTd} {S : zES} {H : zSH} {μ0 : zq_Me} (ht : H.1 0 = false) (hC : zIc τ S H μ0) : zq_Wp zn_X8_lose 0 [(0, .ref 0), (1, .int (nI 0))] [] μ0 (zRc (.int (-10 - nI 1)) τ S (yhf H (nI 1)) μ0) := by
  refine zq_go zt_X8_lose 1 [] 1 [(0, .ref 0), (1, .int (nI 0))] [.int (nI 0)] μ0 rfl trivial ?_
  refine zq_call zt_X8_lose [.int (nI 0)] [] (zs_isSheet (nI 0) μ0) rfl rfl ?_
  rintro _ _ ⟨rfl, rfl⟩
  refine zq_go zt_X8_lose 1 [] (if ¬ (zb (0 ≤ nI 0 ∧ nI 0 ≤ nI 3)) = 0 then 10 else 7) [(0, .ref 0), (1, .int (nI 0))] [] μ0 rfl trivial ?_
  rw [if_pos (zb_n (yin (by omega) (by decide)))]
  refine zq_go zt_X8_lose 6 [vp_in (nI 0) 4] 18 [(0, .ref 0), (1, .int (nI 0)), (2, .ref 25)] [.ref 25] μ0 rfl ⟨zn_in rfl (by decide) (by decide), trivial⟩ ?_
  refine zq_call zt_X8_lose [.ref 25] [] (zs_isLostN_0 ht hC) rfl rfl ?_
  rintro _ _ ⟨rfl, rfl⟩
  refine zq_go zt_X8_lose 1 [] (if (nI 1) = 0 then 30 else 24) [(0, .ref 0), (1, .int (nI 0)), (2, .ref 25)] [] μ0 rfl trivial ?_
  rw [if_neg (by decide)]
  refine zq_go zt_X8_lose 2 [] 26 [(0, .ref 0), (1, .int (nI 0)), (2, .ref 25)] [.int (nI 1), .ref 0] μ0 rfl trivial ?_
  refine zq_call zt_X8_lose [.ref 0, .int (nI 1)] [] (zs_refuse 1 hC) rfl rfl ?_
  rintro _ μ1 ⟨rfl, hC1, f1⟩
  exact zq_retn zt_X8_lose rfl rfl (⟨rfl, hC1, f1⟩)
set_option maxRecDepth 100000 in
set_option maxHeartbeats 400000 in
theorem zs_lose_n_1 {τ : zTd} {S : zES} {H : zSH} {μ0 : zq_Me} (ht : H.1 1 = false) (hC : zIc τ S H μ0) : zq_Wp zn_X8_lose 0 [(0, .ref 0), (1, .int (nI 1))] [] μ0 (zRc (.int (-10 - nI 1)) τ S (yhf H (nI 1)) μ0) := by
  refine zq_go zt_X8_lose 1 [] 1 [(0, .ref 0), (1, .int (nI 1))] [.int (nI 1)] μ0 rfl trivial ?_
  refine zq_call zt_X8_lose [.int (nI 1)] [] (zs_isSheet (nI 1) μ0) rfl rfl ?_
  rintro _ _ ⟨rfl, rfl⟩
  refine zq_go zt_X8_lose 1 [] (if ¬ (zb (0 ≤ nI 1 ∧ nI 1 ≤ nI 3)) = 0 then 10 else 7) [(0, .ref 0), (1, .int (nI 1))] [] μ0 rfl trivial ?_
  rw [if_pos (zb_n (yin (by omega) (by decide)))]
  refine zq_go zt_X8_lose 6 [vp_in (nI 1) 4] 18 [(0, .ref 0), (1, .int (nI 1)), (2, .ref 27)] [.ref 27] μ0 rfl ⟨zn_in rfl (by decide) (by decide), trivial⟩ ?_
  refine zq_call zt_X8_lose [.ref 27] [] (zs_isLostN_1 ht hC) rfl rfl ?_
  rintro _ _ ⟨rfl, rfl⟩
  refine zq_go zt_X8_lose 1 [] (if (nI 1) = 0 then 30 else 24) [(0, .ref 0), (1, .int (nI 1)), (2, .ref 27)] [] μ0 rfl trivial ?_
  rw [if_neg (by decide)]
  refine zq_go zt_X8_lose 2 [] 26 [(0, .ref 0), (1, .int (nI 1)), (2, .ref 27)] [.int (nI 1), .ref 0] μ0 rfl trivial ?_
  refine zq_call zt_X8_lose [.ref 0, .int (nI 1)] [] (zs_refuse 1 hC) rfl rfl ?_
  rintro _ μ1 ⟨rfl, hC1, f1⟩
  exact zq_retn zt_X8_lose rfl rfl (⟨rfl, hC1, f1⟩)
set_option maxRecDepth 100000 in
set_option maxHeartbeats 400000 in
theorem zs_lose_n_2 {τ : zTd} {S : zES} {H : zSH} {μ0 : zq_Me} (ht : H.1 2 = false) (hC : zIc τ S H μ0) : zq_Wp zn_X8_lose 0 [(0, .ref 0), (1, .int (nI 2))] [] μ0 (zRc (.int (-10 - nI 1)) τ S (yhf H (nI 1)) μ0) := by
  refine zq_go zt_X8_lose 1 [] 1 [(0, .ref 0), (1, .int (nI 2))] [.int (nI 2)] μ0 rfl trivial ?_
  refine zq_call zt_X8_lose [.int (nI 2)] [] (zs_isSheet (nI 2) μ0) rfl rfl ?_
  rintro _ _ ⟨rfl, rfl⟩
  refine zq_go zt_X8_lose 1 [] (if ¬ (zb (0 ≤ nI 2 ∧ nI 2 ≤ nI 3)) = 0 then 10 else 7) [(0, .ref 0), (1, .int (nI 2))] [] μ0 rfl trivial ?_
  rw [if_pos (zb_n (yin (by omega) (by decide)))]
  refine zq_go zt_X8_lose 6 [vp_in (nI 2) 4] 18 [(0, .ref 0), (1, .int (nI 2)), (2, .ref 29)] [.ref 29] μ0 rfl ⟨zn_in rfl (by decide) (by decide), trivial⟩ ?_
  refine zq_call zt_X8_lose [.ref 29] [] (zs_isLostN_2 ht hC) rfl rfl ?_
  rintro _ _ ⟨rfl, rfl⟩
  refine zq_go zt_X8_lose 1 [] (if (nI 1) = 0 then 30 else 24) [(0, .ref 0), (1, .int (nI 2)), (2, .ref 29)] [] μ0 rfl trivial ?_
  rw [if_neg (by decide)]
  refine zq_go zt_X8_lose 2 [] 26 [(0, .ref 0), (1, .int (nI 2)), (2, .ref 29)] [.int (nI 1), .ref 0] μ0 rfl trivial ?_
  refine zq_call zt_X8_lose [.ref 0, .int (nI 1)] [] (zs_refuse 1 hC) rfl rfl ?_
  rintro _ μ1 ⟨rfl, hC1, f1⟩
  exact zq_retn zt_X8_lose rfl rfl (⟨rfl, hC1, f1⟩)
set_option maxRecDepth 100000 in
set_option maxHeartbeats 400000 in
theorem zs_lose_n_3 {τ : zTd} {S : zES} {H : zSH} {μ0 : zq_Me} (ht : H.1 3 = false) (hC : zIc τ S H μ0) : zq_Wp zn_X8_lose 0 [(0, .ref 0), (1, .int (nI 3))] [] μ0 (zRc (.int (-10 - nI 1)) τ S (yhf H (nI 1)) μ0) := by
  refine zq_go zt_X8_lose 1 [] 1 [(0, .ref 0), (1, .int (nI 3))] [.int (nI 3)] μ0 rfl trivial ?_
  refine zq_call zt_X8_lose [.int (nI 3)] [] (zs_isSheet (nI 3) μ0) rfl rfl ?_
  rintro _ _ ⟨rfl, rfl⟩
  refine zq_go zt_X8_lose 1 [] (if ¬ (zb (0 ≤ nI 3 ∧ nI 3 ≤ nI 3)) = 0 then 10 else 7) [(0, .ref 0), (1, .int (nI 3))] [] μ0 rfl trivial ?_
  rw [if_pos (zb_n (yin (by omega) (by decide)))]
  refine zq_go zt_X8_lose 6 [vp_in (nI 3) 4] 18 [(0, .ref 0), (1, .int (nI 3)), (2, .ref 31)] [.ref 31] μ0 rfl ⟨zn_in rfl (by decide) (by decide), trivial⟩ ?_
  refine zq_call zt_X8_lose [.ref 31] [] (zs_isLostN_3 ht hC) rfl rfl ?_
  rintro _ _ ⟨rfl, rfl⟩
  refine zq_go zt_X8_lose 1 [] (if (nI 1) = 0 then 30 else 24) [(0, .ref 0), (1, .int (nI 3)), (2, .ref 31)] [] μ0 rfl trivial ?_
  rw [if_neg (by decide)]
  refine zq_go zt_X8_lose 2 [] 26 [(0, .ref 0), (1, .int (nI 3)), (2, .ref 31)] [.int (nI 1), .ref 0] μ0 rfl trivial ?_
  refine zq_call zt_X8_lose [.ref 0, .int (nI 1)] [] (zs_refuse 1 hC) rfl rfl ?_
  rintro _ μ1 ⟨rfl, hC1, f1⟩
  exact zq_retn zt_X8_lose rfl rfl (⟨rfl, hC1, f1⟩)
theorem zs_lose_n {τ : zTd} {S : zES} {H : zSH} {μ0 : zq_Me} {s : Nat} (ls : s ≤ 3) (ht : H.1 s = false) (hC : zIc τ S H μ0) : zq_Wp zn_X8_lose 0 [(0, .ref 0), (1, .int (nI s))] [] μ0 (zRc (.int (-10 - nI 1)) τ S (yhf H (nI 1)) μ0) := by
  obtain rfl | rfl | rfl | rfl : s = 0 ∨ s = 1 ∨ s = 2 ∨ s = 3 := by omega
  · exact zs_lose_n_0 ht hC
  · exact zs_lose_n_1 ht hC
  · exact zs_lose_n_2 ht hC
  · exact zs_lose_n_3 ht hC
set_option maxRecDepth 100000 in
set_option maxHeartbeats 400000 in
theorem zs_lose_b (v1 : Int32) (hg : ¬ (0 ≤ v1 ∧ v1 ≤ nI 3)) {τ : zTd} {S : zES} {H : zSH} {μ0 : zq_Me} (hC : zIc τ S H μ0) : zq_Wp zn_X8_lose 0 [(0, .ref 0), (1, .int v1)] [] μ0 (zRc (.int (-2)) τ S H μ0) := by
  refine zq_go zt_X8_lose 1 [] 1 [(0, .ref 0), (1, .int v1)] [.int v1] μ0 rfl trivial ?_
  refine zq_call zt_X8_lose [.int v1] [] (zs_isSheet v1 μ0) rfl rfl ?_
  rintro _ _ ⟨rfl, rfl⟩
  refine zq_go zt_X8_lose 1 [] (if ¬ (zb (0 ≤ v1 ∧ v1 ≤ nI 3)) = 0 then 10 else 7) [(0, .ref 0), (1, .int v1)] [] μ0 rfl trivial ?_
  refine zq_ite (fun h4 => ?_) (fun h4 => ?_)
  · have g0 := zb_p h4
    exact absurd g0 hg
  · refine zq_go zt_X8_lose 1 [] 9 [(0, .ref 0), (1, .int v1)] [.int (-2)] μ0 rfl trivial ?_
    exact zq_retn zt_X8_lose rfl rfl (⟨rfl, hC, zq_fr.rf⟩)
set_option maxRecDepth 100000 in
set_option maxHeartbeats 400000 in
theorem zs_sheet_0 {τ : zTd} {S : zES} {H : zSH} {μ0 : zq_Me} {f n : Nat} (lf : f ≤ 2) (ln : n ≤ 60) (hC : zIc τ S H μ0) : zq_Wp zn_X8_sheet 0 [(0, .ref 0), (1, .int (nI 0)), (2, .int (nI f)), (3, .int (nI n))] [] μ0 (zRc (.int (nI n)) τ S (yhn H 0 f n) μ0) := by
  refine zq_go zt_X8_sheet 1 [] 1 [(0, .ref 0), (1, .int (nI 0)), (2, .int (nI f)), (3, .int (nI n))] [.int (nI 0)] μ0 rfl trivial ?_
  refine zq_call zt_X8_sheet [.int (nI 0)] [] (zs_isSheet (nI 0) μ0) rfl rfl ?_
  rintro _ _ ⟨rfl, rfl⟩
  refine zq_go zt_X8_sheet 1 [] (if (zb (0 ≤ nI 0 ∧ nI 0 ≤ nI 3)) = 0 then 20 else 7) [(0, .ref 0), (1, .int (nI 0)), (2, .int (nI f)), (3, .int (nI n))] [] μ0 rfl trivial ?_
  rw [if_neg (zb_n (yin (by omega) (by decide)))]
  refine zq_go zt_X8_sheet 1 [] 8 [(0, .ref 0), (1, .int (nI 0)), (2, .int (nI f)), (3, .int (nI n))] [.int (nI f)] μ0 rfl trivial ?_
  refine zq_call zt_X8_sheet [.int (nI f)] [] (zs_isForm (nI f) μ0) rfl rfl ?_
  rintro _ _ ⟨rfl, rfl⟩
  refine zq_go zt_X8_sheet 1 [] (if (zb (0 ≤ nI f ∧ nI f ≤ nI 2)) = 0 then 20 else 14) [(0, .ref 0), (1, .int (nI 0)), (2, .int (nI f)), (3, .int (nI n))] [] μ0 rfl trivial ?_
  rw [if_neg (zb_n (yin (by omega) (by decide)))]
  refine zq_go zt_X8_sheet 3 [] (if (nI n) ≤ (nI 60) then 23 else 20) [(0, .ref 0), (1, .int (nI 0)), (2, .int (nI f)), (3, .int (nI n))] [] μ0 rfl trivial ?_
  rw [if_pos (by rw [zn_le (by omega) (by omega)]; omega)]
  refine zq_go zt_X8_sheet 2 [] (if 0 ≤ (nI n) then 33 else 27) [(0, .ref 0), (1, .int (nI 0)), (2, .int (nI f)), (3, .int (nI n))] [] μ0 rfl trivial ?_
  rw [if_pos (zn_0le (by omega))]
  refine zq_go zt_X8_sheet 6 [vp_in (nI 0) 4] 41 [(0, .ref 0), (1, .int (nI 0)), (2, .int (nI f)), (3, .int (nI n))] [.int (nI n), .int (nI f), .ref 25] μ0 rfl ⟨zn_in rfl (by decide) (by decide), trivial⟩ ?_
  refine zq_call zt_X8_sheet [.ref 25, .int (nI f), .int (nI n)] [] (zs_become_0 lf ln hC) rfl rfl ?_
  rintro _ μ1 ⟨rfl, hC1, f1⟩
  refine zq_go zt_X8_sheet 1 [] 45 [(0, .ref 0), (1, .int (nI 0)), (2, .int (nI f)), (3, .int (nI n))] [.int (nI n)] μ1 rfl trivial ?_
  exact zq_retn zt_X8_sheet rfl rfl (⟨rfl, hC1, f1⟩)
set_option maxRecDepth 100000 in
set_option maxHeartbeats 400000 in
theorem zs_sheet_1 {τ : zTd} {S : zES} {H : zSH} {μ0 : zq_Me} {f n : Nat} (lf : f ≤ 2) (ln : n ≤ 60) (hC : zIc τ S H μ0) : zq_Wp zn_X8_sheet 0 [(0, .ref 0), (1, .int (nI 1)), (2, .int (nI f)), (3, .int (nI n))] [] μ0 (zRc (.int (nI n)) τ S (yhn H 1 f n) μ0) := by
  refine zq_go zt_X8_sheet 1 [] 1 [(0, .ref 0), (1, .int (nI 1)), (2, .int (nI f)), (3, .int (nI n))] [.int (nI 1)] μ0 rfl trivial ?_
  refine zq_call zt_X8_sheet [.int (nI 1)] [] (zs_isSheet (nI 1) μ0) rfl rfl ?_
  rintro _ _ ⟨rfl, rfl⟩
  refine zq_go zt_X8_sheet 1 [] (if (zb (0 ≤ nI 1 ∧ nI 1 ≤ nI 3)) = 0 then 20 else 7) [(0, .ref 0), (1, .int (nI 1)), (2, .int (nI f)), (3, .int (nI n))] [] μ0 rfl trivial ?_
  rw [if_neg (zb_n (yin (by omega) (by decide)))]
  refine zq_go zt_X8_sheet 1 [] 8 [(0, .ref 0), (1, .int (nI 1)), (2, .int (nI f)), (3, .int (nI n))] [.int (nI f)] μ0 rfl trivial ?_
  refine zq_call zt_X8_sheet [.int (nI f)] [] (zs_isForm (nI f) μ0) rfl rfl ?_
  rintro _ _ ⟨rfl, rfl⟩
  refine zq_go zt_X8_sheet 1 [] (if (zb (0 ≤ nI f ∧ nI f ≤ nI 2)) = 0 then 20 else 14) [(0, .ref 0), (1, .int (nI 1)), (2, .int (nI f)), (3, .int (nI n))] [] μ0 rfl trivial ?_
  rw [if_neg (zb_n (yin (by omega) (by decide)))]
  refine zq_go zt_X8_sheet 3 [] (if (nI n) ≤ (nI 60) then 23 else 20) [(0, .ref 0), (1, .int (nI 1)), (2, .int (nI f)), (3, .int (nI n))] [] μ0 rfl trivial ?_
  rw [if_pos (by rw [zn_le (by omega) (by omega)]; omega)]
  refine zq_go zt_X8_sheet 2 [] (if 0 ≤ (nI n) then 33 else 27) [(0, .ref 0), (1, .int (nI 1)), (2, .int (nI f)), (3, .int (nI n))] [] μ0 rfl trivial ?_
  rw [if_pos (zn_0le (by omega))]
  refine zq_go zt_X8_sheet 6 [vp_in (nI 1) 4] 41 [(0, .ref 0), (1, .int (nI 1)), (2, .int (nI f)), (3, .int (nI n))] [.int (nI n), .int (nI f), .ref 27] μ0 rfl ⟨zn_in rfl (by decide) (by decide), trivial⟩ ?_
  refine zq_call zt_X8_sheet [.ref 27, .int (nI f), .int (nI n)] [] (zs_become_1 lf ln hC) rfl rfl ?_
  rintro _ μ1 ⟨rfl, hC1, f1⟩
  refine zq_go zt_X8_sheet 1 [] 45 [(0, .ref 0), (1, .int (nI 1)), (2, .int (nI f)), (3, .int (nI n))] [.int (nI n)] μ1 rfl trivial ?_
  exact zq_retn zt_X8_sheet rfl rfl (⟨rfl, hC1, f1⟩)
set_option maxRecDepth 100000 in
set_option maxHeartbeats 400000 in
theorem zs_sheet_2 {τ : zTd} {S : zES} {H : zSH} {μ0 : zq_Me} {f n : Nat} (lf : f ≤ 2) (ln : n ≤ 60) (hC : zIc τ S H μ0) : zq_Wp zn_X8_sheet 0 [(0, .ref 0), (1, .int (nI 2)), (2, .int (nI f)), (3, .int (nI n))] [] μ0 (zRc (.int (nI n)) τ S (yhn H 2 f n) μ0) := by
  refine zq_go zt_X8_sheet 1 [] 1 [(0, .ref 0), (1, .int (nI 2)), (2, .int (nI f)), (3, .int (nI n))] [.int (nI 2)] μ0 rfl trivial ?_
  refine zq_call zt_X8_sheet [.int (nI 2)] [] (zs_isSheet (nI 2) μ0) rfl rfl ?_
  rintro _ _ ⟨rfl, rfl⟩
  refine zq_go zt_X8_sheet 1 [] (if (zb (0 ≤ nI 2 ∧ nI 2 ≤ nI 3)) = 0 then 20 else 7) [(0, .ref 0), (1, .int (nI 2)), (2, .int (nI f)), (3, .int (nI n))] [] μ0 rfl trivial ?_
  rw [if_neg (zb_n (yin (by omega) (by decide)))]
  refine zq_go zt_X8_sheet 1 [] 8 [(0, .ref 0), (1, .int (nI 2)), (2, .int (nI f)), (3, .int (nI n))] [.int (nI f)] μ0 rfl trivial ?_
  refine zq_call zt_X8_sheet [.int (nI f)] [] (zs_isForm (nI f) μ0) rfl rfl ?_
  rintro _ _ ⟨rfl, rfl⟩
  refine zq_go zt_X8_sheet 1 [] (if (zb (0 ≤ nI f ∧ nI f ≤ nI 2)) = 0 then 20 else 14) [(0, .ref 0), (1, .int (nI 2)), (2, .int (nI f)), (3, .int (nI n))] [] μ0 rfl trivial ?_
  rw [if_neg (zb_n (yin (by omega) (by decide)))]
  refine zq_go zt_X8_sheet 3 [] (if (nI n) ≤ (nI 60) then 23 else 20) [(0, .ref 0), (1, .int (nI 2)), (2, .int (nI f)), (3, .int (nI n))] [] μ0 rfl trivial ?_
  rw [if_pos (by rw [zn_le (by omega) (by omega)]; omega)]
  refine zq_go zt_X8_sheet 2 [] (if 0 ≤ (nI n) then 33 else 27) [(0, .ref 0), (1, .int (nI 2)), (2, .int (nI f)), (3, .int (nI n))] [] μ0 rfl trivial ?_
  rw [if_pos (zn_0le (by omega))]
  refine zq_go zt_X8_sheet 6 [vp_in (nI 2) 4] 41 [(0, .ref 0), (1, .int (nI 2)), (2, .int (nI f)), (3, .int (nI n))] [.int (nI n), .int (nI f), .ref 29] μ0 rfl ⟨zn_in rfl (by decide) (by decide), trivial⟩ ?_
  refine zq_call zt_X8_sheet [.ref 29, .int (nI f), .int (nI n)] [] (zs_become_2 lf ln hC) rfl rfl ?_
  rintro _ μ1 ⟨rfl, hC1, f1⟩
  refine zq_go zt_X8_sheet 1 [] 45 [(0, .ref 0), (1, .int (nI 2)), (2, .int (nI f)), (3, .int (nI n))] [.int (nI n)] μ1 rfl trivial ?_
  exact zq_retn zt_X8_sheet rfl rfl (⟨rfl, hC1, f1⟩)
set_option maxRecDepth 100000 in
set_option maxHeartbeats 400000 in
theorem zs_sheet_3 {τ : zTd} {S : zES} {H : zSH} {μ0 : zq_Me} {f n : Nat} (lf : f ≤ 2) (ln : n ≤ 60) (hC : zIc τ S H μ0) : zq_Wp zn_X8_sheet 0 [(0, .ref 0), (1, .int (nI 3)), (2, .int (nI f)), (3, .int (nI n))] [] μ0 (zRc (.int (nI n)) τ S (yhn H 3 f n) μ0) := by
  refine zq_go zt_X8_sheet 1 [] 1 [(0, .ref 0), (1, .int (nI 3)), (2, .int (nI f)), (3, .int (nI n))] [.int (nI 3)] μ0 rfl trivial ?_
  refine zq_call zt_X8_sheet [.int (nI 3)] [] (zs_isSheet (nI 3) μ0) rfl rfl ?_
  rintro _ _ ⟨rfl, rfl⟩
  refine zq_go zt_X8_sheet 1 [] (if (zb (0 ≤ nI 3 ∧ nI 3 ≤ nI 3)) = 0 then 20 else 7) [(0, .ref 0), (1, .int (nI 3)), (2, .int (nI f)), (3, .int (nI n))] [] μ0 rfl trivial ?_
  rw [if_neg (zb_n (yin (by omega) (by decide)))]
  refine zq_go zt_X8_sheet 1 [] 8 [(0, .ref 0), (1, .int (nI 3)), (2, .int (nI f)), (3, .int (nI n))] [.int (nI f)] μ0 rfl trivial ?_
  refine zq_call zt_X8_sheet [.int (nI f)] [] (zs_isForm (nI f) μ0) rfl rfl ?_
  rintro _ _ ⟨rfl, rfl⟩
  refine zq_go zt_X8_sheet 1 [] (if (zb (0 ≤ nI f ∧ nI f ≤ nI 2)) = 0 then 20 else 14) [(0, .ref 0), (1, .int (nI 3)), (2, .int (nI f)), (3, .int (nI n))] [] μ0 rfl trivial ?_
  rw [if_neg (zb_n (yin (by omega) (by decide)))]
  refine zq_go zt_X8_sheet 3 [] (if (nI n) ≤ (nI 60) then 23 else 20) [(0, .ref 0), (1, .int (nI 3)), (2, .int (nI f)), (3, .int (nI n))] [] μ0 rfl trivial ?_
  rw [if_pos (by rw [zn_le (by omega) (by omega)]; omega)]
  refine zq_go zt_X8_sheet 2 [] (if 0 ≤ (nI n) then 33 else 27) [(0, .ref 0), (1, .int (nI 3)), (2, .int (nI f)), (3, .int (nI n))] [] μ0 rfl trivial ?_
  rw [if_pos (zn_0le (by omega))]
  refine zq_go zt_X8_sheet 6 [vp_in (nI 3) 4] 41 [(0, .ref 0), (1, .int (nI 3)), (2, .int (nI f)), (3, .int (nI n))] [.int (nI n), .int (nI f), .ref 31] μ0 rfl ⟨zn_in rfl (by decide) (by decide), trivial⟩ ?_
  refine zq_call zt_X8_sheet [.ref 31, .int (nI f), .int (nI n)] [] (zs_become_3 lf ln hC) rfl rfl ?_
  rintro _ μ1 ⟨rfl, hC1, f1⟩
  refine zq_go zt_X8_sheet 1 [] 45 [(0, .ref 0), (1, .int (nI 3)), (2, .int (nI f)), (3, .int (nI n))] [.int (nI n)] μ1 rfl trivial ?_
  exact zq_retn zt_X8_sheet rfl rfl (⟨rfl, hC1, f1⟩)
theorem zs_sheet {τ : zTd} {S : zES} {H : zSH} {μ0 : zq_Me} {s : Nat} (ls : s ≤ 3) {f n : Nat} (lf : f ≤ 2) (ln : n ≤ 60) (hC : zIc τ S H μ0) : zq_Wp zn_X8_sheet 0 [(0, .ref 0), (1, .int (nI s)), (2, .int (nI f)), (3, .int (nI n))] [] μ0 (zRc (.int (nI n)) τ S (yhn H s f n) μ0) := by
  obtain rfl | rfl | rfl | rfl : s = 0 ∨ s = 1 ∨ s = 2 ∨ s = 3 := by omega
  · exact zs_sheet_0 lf ln hC
  · exact zs_sheet_1 lf ln hC
  · exact zs_sheet_2 lf ln hC
  · exact zs_sheet_3 lf ln hC
set_option maxRecDepth 100000 in
set_option maxHeartbeats 400000 in
theorem zs_sheet_n {τ : zTd} {S : zES} {H : zSH} {μ0 : zq_Me} {s f : Nat} (ls : s ≤ 3) (lf : f ≤ 2) (n : Int32) (h60 : n ≤ nI 60) (hn : n < 0) (hC : zIc τ S H μ0) : zq_Wp zn_X8_sheet 0 [(0, .ref 0), (1, .int (nI s)), (2, .int (nI f)), (3, .int n)] [] μ0 (zRc (.int (-10 - nI 5)) τ S (yhf H (nI 5)) μ0) := by
  refine zq_go zt_X8_sheet 1 [] 1 [(0, .ref 0), (1, .int (nI s)), (2, .int (nI f)), (3, .int n)] [.int (nI s)] μ0 rfl trivial ?_
  refine zq_call zt_X8_sheet [.int (nI s)] [] (zs_isSheet (nI s) μ0) rfl rfl ?_
  rintro _ _ ⟨rfl, rfl⟩
  refine zq_go zt_X8_sheet 1 [] (if (zb (0 ≤ nI s ∧ nI s ≤ nI 3)) = 0 then 20 else 7) [(0, .ref 0), (1, .int (nI s)), (2, .int (nI f)), (3, .int n)] [] μ0 rfl trivial ?_
  rw [if_neg (zb_n (yin (by omega) (by decide)))]
  refine zq_go zt_X8_sheet 1 [] 8 [(0, .ref 0), (1, .int (nI s)), (2, .int (nI f)), (3, .int n)] [.int (nI f)] μ0 rfl trivial ?_
  refine zq_call zt_X8_sheet [.int (nI f)] [] (zs_isForm (nI f) μ0) rfl rfl ?_
  rintro _ _ ⟨rfl, rfl⟩
  refine zq_go zt_X8_sheet 1 [] (if (zb (0 ≤ nI f ∧ nI f ≤ nI 2)) = 0 then 20 else 14) [(0, .ref 0), (1, .int (nI s)), (2, .int (nI f)), (3, .int n)] [] μ0 rfl trivial ?_
  rw [if_neg (zb_n (yin (by omega) (by decide)))]
  refine zq_go zt_X8_sheet 3 [] (if n ≤ (nI 60) then 23 else 20) [(0, .ref 0), (1, .int (nI s)), (2, .int (nI f)), (3, .int n)] [] μ0 rfl trivial ?_
  rw [if_pos (h60)]
  refine zq_go zt_X8_sheet 2 [] (if 0 ≤ n then 33 else 27) [(0, .ref 0), (1, .int (nI s)), (2, .int (nI f)), (3, .int n)] [] μ0 rfl trivial ?_
  rw [if_neg (Int32.not_le.mpr hn)]
  refine zq_go zt_X8_sheet 2 [] 29 [(0, .ref 0), (1, .int (nI s)), (2, .int (nI f)), (3, .int n)] [.int (nI 5), .ref 0] μ0 rfl trivial ?_
  refine zq_call zt_X8_sheet [.ref 0, .int (nI 5)] [] (zs_refuse 5 hC) rfl rfl ?_
  rintro _ μ1 ⟨rfl, hC1, f1⟩
  exact zq_retn zt_X8_sheet rfl rfl (⟨rfl, hC1, f1⟩)
set_option maxRecDepth 100000 in
set_option maxHeartbeats 400000 in
theorem zs_sheet_b (v1 v2 v3 : Int32) (hg : ¬ ((0 ≤ v1 ∧ v1 ≤ nI 3) ∧ (0 ≤ v2 ∧ v2 ≤ nI 2) ∧ v3 ≤ nI 60)) {τ : zTd} {S : zES} {H : zSH} {μ0 : zq_Me} (hC : zIc τ S H μ0) : zq_Wp zn_X8_sheet 0 [(0, .ref 0), (1, .int v1), (2, .int v2), (3, .int v3)] [] μ0 (zRc (.int (-2)) τ S H μ0) := by
  refine zq_go zt_X8_sheet 1 [] 1 [(0, .ref 0), (1, .int v1), (2, .int v2), (3, .int v3)] [.int v1] μ0 rfl trivial ?_
  refine zq_call zt_X8_sheet [.int v1] [] (zs_isSheet v1 μ0) rfl rfl ?_
  rintro _ _ ⟨rfl, rfl⟩
  refine zq_go zt_X8_sheet 1 [] (if (zb (0 ≤ v1 ∧ v1 ≤ nI 3)) = 0 then 20 else 7) [(0, .ref 0), (1, .int v1), (2, .int v2), (3, .int v3)] [] μ0 rfl trivial ?_
  refine zq_ite (fun h4 => ?_) (fun h4 => ?_)
  · refine zq_go zt_X8_sheet 1 [] 22 [(0, .ref 0), (1, .int v1), (2, .int v2), (3, .int v3)] [.int (-2)] μ0 rfl trivial ?_
    exact zq_retn zt_X8_sheet rfl rfl (⟨rfl, hC, zq_fr.rf⟩)
  · have g0 := zb_p h4
    refine zq_go zt_X8_sheet 1 [] 8 [(0, .ref 0), (1, .int v1), (2, .int v2), (3, .int v3)] [.int v2] μ0 rfl trivial ?_
    refine zq_call zt_X8_sheet [.int v2] [] (zs_isForm v2 μ0) rfl rfl ?_
    rintro _ _ ⟨rfl, rfl⟩
    refine zq_go zt_X8_sheet 1 [] (if (zb (0 ≤ v2 ∧ v2 ≤ nI 2)) = 0 then 20 else 14) [(0, .ref 0), (1, .int v1), (2, .int v2), (3, .int v3)] [] μ0 rfl trivial ?_
    refine zq_ite (fun h12 => ?_) (fun h12 => ?_)
    · refine zq_go zt_X8_sheet 1 [] 22 [(0, .ref 0), (1, .int v1), (2, .int v2), (3, .int v3)] [.int (-2)] μ0 rfl trivial ?_
      exact zq_retn zt_X8_sheet rfl rfl (⟨rfl, hC, zq_fr.rf⟩)
    · have g1 := zb_p h12
      refine zq_go zt_X8_sheet 3 [] (if v3 ≤ (nI 60) then 23 else 20) [(0, .ref 0), (1, .int v1), (2, .int v2), (3, .int v3)] [] μ0 rfl trivial ?_
      refine zq_ite (fun h17 => ?_) (fun h17 => ?_)
      · exact absurd ⟨g0, g1, h17⟩ hg
      · refine zq_go zt_X8_sheet 1 [] 22 [(0, .ref 0), (1, .int v1), (2, .int v2), (3, .int v3)] [.int (-2)] μ0 rfl trivial ?_
        exact zq_retn zt_X8_sheet rfl rfl (⟨rfl, hC, zq_fr.rf⟩)
