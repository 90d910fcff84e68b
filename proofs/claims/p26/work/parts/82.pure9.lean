/-! What is told, and what the law makes of it. -/
theorem psu_k {σ : Int → Int} {p : Int} (h0 : 0 ≤ p) (h1 : p < σ 0) {k : Int} (k0 : 0 ≤ k) (k1 : k ≤ 4) : psu σ p k = σ (13 + 6 * p + k) := by
  unfold psu
  rw [if_pos (by omega), if_neg (by omega), if_neg (by omega), if_neg (by omega), if_neg (by omega), if_pos (by omega)]
theorem psu_5 {σ : Int → Int} {p : Int} (h0 : 0 ≤ p) (h1 : p < σ 0) : psu σ p 5 = if σ (13 + 6 * p + 4) = 0 then -5 else lst σ p := by
  unfold psu; rw [if_pos (by omega), if_pos rfl]
theorem psu_6 {σ : Int → Int} {p : Int} (h0 : 0 ≤ p) (h1 : p < σ 0) : psu σ p 6 = if σ (13 + 6 * p + 4) = 0 then -5 else grt σ p := by
  unfold psu; rw [if_pos (by omega), if_neg (by omega), if_pos rfl]
theorem psu_7 {σ : Int → Int} {p : Int} (h0 : 0 ≤ p) (h1 : p < σ 0) : psu σ p 7 = rch σ p (σ 0) := by
  unfold psu; rw [if_pos (by omega), if_neg (by omega), if_neg (by omega), if_pos rfl]
theorem psu_no {σ : Int → Int} {p : Int} (h : ¬ isp σ p) (k : Int) : psu σ p k = -1 := if_neg h
theorem cnu_k {σ : Int → Int} {kn le k : Int} (k0 : 0 ≤ k) (k1 : k ≤ 9) : cnu σ kn le k = σ k := if_pos ⟨k0, k1⟩
theorem cnu_10 (σ : Int → Int) (kn le : Int) : cnu σ kn le 10 = swf σ (σ 0) := by unfold cnu; rw [if_neg (by omega), if_pos rfl]
theorem cnu_11 (σ : Int → Int) (kn le : Int) : cnu σ kn le 11 = wtu σ := by unfold cnu; rw [if_neg (by omega), if_neg (by omega), if_pos rfl]
theorem cnu_12 (σ : Int → Int) (kn le : Int) : cnu σ kn le 12 = unf σ (σ 0) := by unfold cnu; rw [if_neg (by omega), if_neg (by omega), if_neg (by omega), if_pos rfl]
theorem cnu_14 (σ : Int → Int) (kn le : Int) : cnu σ kn le 14 = σ 11 := by unfold cnu; rw [if_neg (by omega), if_neg (by omega), if_neg (by omega), if_neg (by omega), if_pos (by omega)]; rfl
theorem cnu_15 (σ : Int → Int) (kn le : Int) : cnu σ kn le 15 = σ 12 := by unfold cnu; rw [if_neg (by omega), if_neg (by omega), if_neg (by omega), if_neg (by omega), if_pos (by omega)]; rfl
theorem cnu_16 (σ : Int → Int) (kn le : Int) : cnu σ kn le 16 = kn := by unfold cnu; rw [if_neg (by omega), if_neg (by omega), if_neg (by omega), if_neg (by omega), if_neg (by omega), if_pos rfl]
theorem ifu_in {σ : Int → Int} {p d side wh : Int} (h0 : 0 ≤ p) (h1 : p < σ 0) (hg : gst d side) (w0 : 0 ≤ wh) (w1 : wh ≤ 3) : ifu σ p d side wh = tol σ p d side wh := by
  unfold ifu; rw [if_pos (by omega), if_pos ⟨hg, w0, w1⟩]
theorem ifu_0 {σ : Int → Int} {p d side : Int} (h0 : 0 ≤ p) (h1 : p < σ 0) (hg : gst d side) : ifu σ p d side 0 = bI (cov σ p side) := (ifu_in h0 h1 hg (by omega) (by omega)).trans (if_pos rfl)
theorem ifu_1 {σ : Int → Int} {p d side : Int} (h0 : 0 ≤ p) (h1 : p < σ 0) (hg : gst d side) : ifu σ p d side 1 = rnf σ p (σ 0) := (ifu_in h0 h1 hg (by omega) (by omega)).trans ((if_neg (by omega)).trans (if_pos rfl))
theorem ifu_2 {σ : Int → Int} {p d side : Int} (h0 : 0 ≤ p) (h1 : p < σ 0) (hg : gst d side) : ifu σ p d side 2 = wby σ p d side := (ifu_in h0 h1 hg (by omega) (by omega)).trans ((if_neg (by omega)).trans ((if_neg (by omega)).trans (if_pos rfl)))
theorem ifu_3 {σ : Int → Int} {p d side : Int} (h0 : 0 ≤ p) (h1 : p < σ 0) (hg : gst d side) : ifu σ p d side 3 = bI (σ (13 + 6 * p + 2) < wby σ p d side) := (ifu_in h0 h1 hg (by omega) (by omega)).trans ((if_neg (by omega)).trans ((if_neg (by omega)).trans (if_neg (by omega))))
/-! umbrellas -/
theorem lg_b {σ : Int → Int} (h : Iv σ) {q : Int} (q0 : 0 ≤ q) (q1 : q < σ 0) : 0 ≤ lst σ q ∧ grt σ q < σ 0 ∧ (0 < σ (13 + 6 * q + 4) → lst σ q ≤ q ∧ q ≤ grt σ q) ∧ -3 ≤ lst σ q ∧ lst σ q ≤ 16 ∧ -3 ≤ grt σ q := by
  have := h.1.2.2 q q0 q1
  have := h.1.2.1
  unfold lst grt
  refine ⟨by omega, by omega, fun _ => by omega, by omega, by omega, by omega⟩
theorem rno_iff {σ : Int → Int} (h : Iv σ) {q p : Int} (q0 : 0 ≤ q) (q1 : q < σ 0) : (¬ hit σ q p ∧ (hit σ q (p - 1) ∨ hit σ q (p + 1))) ↔ rno σ q p := by
  have hl := (lg_b h q0 q1).2.2.1
  constructor
  · rintro ⟨a, b⟩
    have a : ¬ (0 < σ (13 + 6 * q + 4) ∧ lst σ q ≤ p ∧ p ≤ grt σ q) := a
    have b : (0 < σ (13 + 6 * q + 4) ∧ lst σ q ≤ p - 1 ∧ p - 1 ≤ grt σ q) ∨ (0 < σ (13 + 6 * q + 4) ∧ lst σ q ≤ p + 1 ∧ p + 1 ≤ grt σ q) := b
    show 0 < σ (13 + 6 * q + 4) ∧ (p = lst σ q - 1 ∨ p = grt σ q + 1)
    omega
  · rintro ⟨a, b⟩
    have := hl a
    show ¬ (0 < σ (13 + 6 * q + 4) ∧ lst σ q ≤ p ∧ p ≤ grt σ q) ∧ ((0 < σ (13 + 6 * q + 4) ∧ lst σ q ≤ p - 1 ∧ p - 1 ≤ grt σ q) ∨ (0 < σ (13 + 6 * q + 4) ∧ lst σ q ≤ p + 1 ∧ p + 1 ≤ grt σ q))
    omega
abbrev cvp (σ : Int → Int) (p side q : Int) : Prop := hit σ q p ∨ (side = 1 ∧ hit σ q (p - 1)) ∨ (side = 2 ∧ hit σ q (p + 1))
def cvs (σ : Int → Int) (p side i : Int) : Int := it (fun q a => a + bI (cvp σ p side q)) 0 i
theorem cvs_s (σ : Int → Int) (p side : Int) {i : Int} (h : 0 ≤ i) : cvs σ p side (i + 1) = cvs σ p side i + bI (cvp σ p side i) := it_s _ _ h
theorem cvs_b (σ : Int → Int) (p side : Int) {n : Int} (hn : 0 ≤ n) : 0 ≤ cvs σ p side n ∧ cvs σ p side n ≤ n := sum_b (fun q => cvp σ p side q) n hn
theorem cvs_cov {σ : Int → Int} (hn : 0 ≤ σ 0) (p side : Int) : 0 < cvs σ p side (σ 0) ↔ cov σ p side := by
  have a := sum_pos (fun q => cvp σ p side q) (σ 0) hn
  have b := fun x : Int => sum_pos (fun q => hit σ q x) (σ 0) hn
  have b : ∀ x : Int, 0 < rch σ x (σ 0) ↔ ∃ q : Int, 0 ≤ q ∧ q < σ 0 ∧ hit σ q x := b
  have a : 0 < cvs σ p side (σ 0) ↔ ∃ q : Int, 0 ≤ q ∧ q < σ 0 ∧ cvp σ p side q := a
  rw [a]
  show _ ↔ 0 < rch σ p (σ 0) ∨ (side = 1 ∧ 0 < rch σ (p - 1) (σ 0)) ∨ (side = 2 ∧ 0 < rch σ (p + 1) (σ 0))
  rw [b, b, b]
  constructor
  · rintro ⟨q, q0, q1, h | ⟨s, h⟩ | ⟨s, h⟩⟩
    · exact Or.inl ⟨q, q0, q1, h⟩
    · exact Or.inr (Or.inl ⟨s, q, q0, q1, h⟩)
    · exact Or.inr (Or.inr ⟨s, q, q0, q1, h⟩)
  · rintro (⟨q, q0, q1, h⟩ | ⟨s, q, q0, q1, h⟩ | ⟨s, q, q0, q1, h⟩)
    · exact ⟨q, q0, q1, Or.inl h⟩
    · exact ⟨q, q0, q1, Or.inr (Or.inl ⟨s, h⟩)⟩
    · exact ⟨q, q0, q1, Or.inr (Or.inr ⟨s, h⟩)⟩
theorem bI_iff {P Q : Prop} [Decidable P] [Decidable Q] (h : P ↔ Q) : bI P = bI Q := by
  by_cases c : P
  · rw [bI_t c, bI_t (h.mp c)]
  · rw [bI_f c, bI_f (fun z => c (h.mpr z))]
theorem hit_5 {σ : Int → Int} (h : Iv σ) {p : Int} (p0 : 0 ≤ p) (p1 : p < σ 0) (hw : σ (13 + 6 * p + 4) ≠ 0) : (psu σ p 5 = lst σ p ∧ psu σ p 6 = grt σ p) ∧ (-3 ≤ lst σ p ∧ lst σ p ≤ 16 ∧ -3 ≤ grt σ p ∧ grt σ p ≤ 16) ∧ hit σ p (psu σ p 5) ∧ hit σ p (psu σ p 6) ∧ ¬ hit σ p (psu σ p 5 - 1) ∧ ¬ hit σ p (psu σ p 6 + 1) := by
  have hq := h.1.2.2 p p0 p1
  have hb := lg_b h p0 p1
  have hl := hb.2.2.1 (by omega)
  have h16 := h.1.2.1
  have e5 : psu σ p 5 = lst σ p := (psu_5 p0 p1).trans (if_neg hw)
  have e6 : psu σ p 6 = grt σ p := (psu_6 p0 p1).trans (if_neg hw)
  rw [e5, e6]
  refine ⟨⟨rfl, rfl⟩, ⟨by omega, by omega, by omega, by omega⟩, ⟨by omega, by omega, by omega⟩, ⟨by omega, by omega, by omega⟩, fun z => ?_, fun z => ?_⟩
  · have := z.2.1; omega
  · have := z.2.2; omega
/-! what somebody bears -/
theorem beu_no {σ : Int → Int} {p d : Int} (p0 : 0 ≤ p) (p1 : p < σ 0) (hd : 1 ≤ d ∧ d ≤ 99) (h : wtr σ p d 0 = 0 ∨ σ (13 + 6 * p + 2) = 999) : beu σ p d = -5 := by
  unfold beu; rw [if_pos (by omega), if_pos hd, if_pos h]
theorem beu_b {σ : Int → Int} (h : Iv σ) {p d : Int} (p0 : 0 ≤ p) (p1 : p < σ 0) (hd : 1 ≤ d ∧ d ≤ 99) (hn : ¬ (wtr σ p d 0 = 0 ∨ σ (13 + 6 * p + 2) = 999)) : (0 ≤ beu σ p d ∧ beu σ p d ≤ 999) ∧ 0 ≤ beu σ p d * wtr σ p d 0 ∧ σ (13 + 6 * p + 1) + beu σ p d * wtr σ p d 0 ≤ σ (13 + 6 * p + 2) ∧ σ (13 + 6 * p + 2) < σ (13 + 6 * p + 1) + (beu σ p d + 1) * wtr σ p d 0 ∧ (beu σ p d + 1) * wtr σ p d 0 ≤ 2000 := by
  have e : beu σ p d = (σ (13 + 6 * p + 2) - σ (13 + 6 * p + 1)) / wtr σ p d 0 := by
    unfold beu; rw [if_pos (by omega), if_pos hd, if_neg hn]
  have hw := wtr_b h.1 p 0 hd.1 hd.2
  have hE := h.2.1 p p0 p1
  have hP := h.2.2.1 p p0 p1
  have hU := h.2.2.2.2.2.1 p p0 p1
  have hpos : 0 < wtr σ p d 0 := by omega
  rw [e]
  generalize σ (13 + 6 * p + 2) = a at *
  generalize σ (13 + 6 * p + 1) = b at *
  generalize wtr σ p d 0 = m at *
  have h1 := Int.ediv_mul_le (a - b) (b := m) (by omega)
  have h2 := Int.lt_ediv_add_one_mul_self (a - b) hpos
  have h3 : 0 ≤ (a - b) / m := Int.ediv_nonneg (by omega) (by omega)
  have h4 : (a - b) / m ≤ a - b := Int.ediv_le_self m (by omega)
  have h5 : 0 ≤ (a - b) / m * m := Int.mul_nonneg h3 (by omega)
  have h6 : ((a - b) / m + 1) * m = (a - b) / m * m + m := by rw [Int.add_mul, Int.one_mul]
  refine ⟨⟨h3, by omega⟩, h5, by omega, by omega, by omega⟩
/-! the wettest, the payer -/
theorem wtt_c (σ : Int → Int) {n : Int} (hn : 0 ≤ n) : (0 ≤ wtt σ n ∧ (wtt σ n < n ∨ n = 0)) ∧ ∀ p : Int, 0 ≤ p → p < n → σ (13 + 6 * p + 1) ≤ σ (13 + 6 * wtt σ n + 1) ∧ (p < wtt σ n → σ (13 + 6 * p + 1) < σ (13 + 6 * wtt σ n + 1)) :=
  it_ind (fun p f => if σ (13 + 6 * f + 1) < σ (13 + 6 * p + 1) then p else f) 0 (fun i f => (0 ≤ f ∧ (f < i ∨ i = 0 ∧ f = 0)) ∧ ∀ p : Int, 0 ≤ p → p < i → σ (13 + 6 * p + 1) ≤ σ (13 + 6 * f + 1) ∧ (p < f → σ (13 + 6 * p + 1) < σ (13 + 6 * f + 1))) n ⟨⟨Int.le_refl 0, Or.inr ⟨rfl, rfl⟩⟩, fun p p0 p1 => absurd p1 (by omega)⟩ (fun i f i0 i1 hx => by
    obtain ⟨⟨f0, f1⟩, f2⟩ := hx
    show (0 ≤ (if σ (13 + 6 * f + 1) < σ (13 + 6 * i + 1) then i else f) ∧ ((if σ (13 + 6 * f + 1) < σ (13 + 6 * i + 1) then i else f) < i + 1 ∨ i + 1 = 0 ∧ (if σ (13 + 6 * f + 1) < σ (13 + 6 * i + 1) then i else f) = 0)) ∧ ∀ p : Int, 0 ≤ p → p < i + 1 → σ (13 + 6 * p + 1) ≤ σ (13 + 6 * (if σ (13 + 6 * f + 1) < σ (13 + 6 * i + 1) then i else f) + 1) ∧ (p < (if σ (13 + 6 * f + 1) < σ (13 + 6 * i + 1) then i else f) → σ (13 + 6 * p + 1) < σ (13 + 6 * (if σ (13 + 6 * f + 1) < σ (13 + 6 * i + 1) then i else f) + 1))
    by_cases c : σ (13 + 6 * f + 1) < σ (13 + 6 * i + 1)
    · rw [if_pos c]
      refine ⟨by omega, fun p p0 p1 => ?_⟩
      by_cases e : p = i
      · subst e; exact ⟨Int.le_refl _, fun z => absurd z (by omega)⟩
      · have := (f2 p p0 (by omega)).1
        exact ⟨by omega, fun _ => by omega⟩
    · rw [if_neg c]
      refine ⟨by omega, fun p p0 p1 => ?_⟩
      by_cases e : p = i
      · subst e; exact ⟨by omega, fun z => absurd z (by omega)⟩
      · exact f2 p p0 (by omega)) n hn (Int.le_refl n) |> fun k => ⟨⟨k.1.1, k.1.2.imp id (fun z => z.1)⟩, k.2⟩
theorem wtu_c {σ : Int → Int} (h : Iv σ) (hn : σ 0 ≠ 0) : wtu σ = wtt σ (σ 0) ∧ (0 ≤ wtu σ ∧ wtu σ < σ 0) ∧ ∀ p : Int, 0 ≤ p → p < σ 0 → σ (13 + 6 * p + 1) ≤ σ (13 + 6 * wtu σ + 1) ∧ (p < wtu σ → σ (13 + 6 * p + 1) < σ (13 + 6 * wtu σ + 1)) := by
  have e : wtu σ = wtt σ (σ 0) := if_neg hn
  have k := wtt_c σ h.1.1
  rw [e]
  exact ⟨rfl, ⟨k.1.1, by have := k.1.2; omega⟩, k.2⟩
theorem wtu_0 {σ : Int → Int} (hn : σ 0 = 0) : wtu σ = -5 := if_pos hn
theorem pyu_0 {σ : Int → Int} (h : Iv σ) (hn : σ 0 ≠ 0) : pyu σ 0 = dri σ (srv σ) ∧ pyu σ 1 = cpd σ ∧ 0 ≤ dri σ (srv σ) ∧ dri σ (srv σ) < srv σ ∧ 1 ≤ srv σ ∧ srv σ ≤ 4 ∧ srv σ ≤ σ 0 ∧ cpd σ = min (σ (13 + 6 * dri σ (srv σ) + 3)) (srv σ * σ 12) ∧ (0 ≤ srv σ * σ 12 ∧ srv σ * σ 12 ≤ 1584) ∧ (0 ≤ σ (13 + 6 * dri σ (srv σ) + 3) ∧ σ (13 + 6 * dri σ (srv σ) + 3) ≤ 9999) := by
  obtain ⟨b, f, g⟩ := Iv_iff.mp h
  have hs := srv_b (σ := σ) (by omega) g.2.2.2.1
  have hd := dri_b σ (n := srv σ) (by omega)
  have hf := far_b (x := srv σ) (d := σ 12) (by omega) (by omega) g.2.2.2.2.1 g.2.2.2.2.2
  have hc := (f (dri σ (srv σ)) (by omega) (by omega)).1.2.2.2.1
  refine ⟨?_, ?_, hd.1, hd.2, hs.1, hs.2.1, hs.2.2, rfl, hf, hc⟩
  · unfold pyu; rw [if_pos (by omega), if_neg hn, if_pos rfl]
  · unfold pyu; rw [if_pos (by omega), if_neg hn, if_neg (by omega)]
theorem pyu_e {σ : Int → Int} (hn : σ 0 = 0) (wh : Int) (h : 0 ≤ wh ∧ wh ≤ 1) : pyu σ wh = -5 := by
  unfold pyu; rw [if_pos h, if_pos hn]
/-! the best swap -/
theorem awb_sw {σ : Int → Int} {p : Int} (p0 : 0 ≤ p) (d side : Int) : awb (sw3 σ p) d side = awb (xch σ p 4) d side := by
  have e0 : sw3 σ p 0 = xch σ p 4 0 := by
    rw [sw3_n σ (by omega) (by omega) (by omega) (by omega) (by omega), xch_lo σ p0 (by omega) (by omega)]
  have ej : ∀ j : Int, j ≠ 13 + 6 * p + 5 → j ≠ 13 + 6 * (p + 1) + 5 → j ≠ 7 → sw3 σ p j = xch σ p 4 j := fun j h1 h2 h3 => by
    unfold sw3 sw2 sw1
    rw [up_n _ _ h3, up_n _ _ h2, up_n _ _ h1]
  unfold awb
  rw [e0]
  unfold awf
  refine it_cong _ _ _ _ (fun q x q0 q1 => ?_)
  have := wby_cong (σ := sw3 σ p) (σ' := xch σ p 4) e0 (fun y _ _ => ej _ (by omega) (by omega) (by omega)) (p := q) (ej _ (by omega) (by omega) (by omega)) d side
  show x + wby (sw3 σ p) q d side = x + wby (xch σ p 4) q d side
  rw [this]
theorem reu_in {σ : Int → Int} {p : Int} (h : pair σ p) : reu σ p = why σ p := if_pos h
theorem swu_in {σ : Int → Int} {p : Int} (h : pair σ p) : swu σ p = if 0 < why σ p then -10 - why σ p else σ (13 + 6 * (p + 1) + 4) := by
  unfold swu
  rw [if_pos h]
  by_cases c : 0 < why σ p
  · rw [if_pos c, if_pos c]
  · rw [if_neg c, if_neg c, sw3_w σ h.1 h.1, if_neg (by omega), if_pos rfl]
theorem bsu_in {σ : Int → Int} {d side : Int} (h : gst d side) : bsu σ d side = (bsl σ d side (σ 0 - 1)).1 := if_pos h
