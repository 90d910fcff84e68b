/-! A gust: who leaves, and who they were. -/
theorem sum_pos (P : Int → Prop) [DecidablePred P] (n : Int) (hn : 0 ≤ n) : 0 < it (fun q a => a + bI (P q)) 0 n ↔ ∃ q : Int, 0 ≤ q ∧ q < n ∧ P q :=
  (it_ind (fun q a => a + bI (P q)) 0 (fun i a => 0 ≤ a ∧ (0 < a ↔ ∃ q : Int, 0 ≤ q ∧ q < i ∧ P q)) n ⟨Int.le_refl 0, ⟨fun h => absurd h (by omega), fun ⟨q, a, b, _⟩ => absurd a (by omega)⟩⟩ (fun i x h0 h1 hx => by
    show 0 ≤ x + bI (P i) ∧ (0 < x + bI (P i) ↔ ∃ q : Int, 0 ≤ q ∧ q < i + 1 ∧ P q)
    obtain ⟨x0, x1⟩ := hx
    by_cases c : P i
    · rw [bI_t c]; exact ⟨by omega, fun _ => ⟨i, h0, by omega, c⟩, fun _ => by omega⟩
    · rw [bI_f c]
      refine ⟨by omega, fun h => ?_, fun ⟨q, a, b, e⟩ => ?_⟩
      · obtain ⟨q, a, b, e⟩ := x1.mp (by omega); exact ⟨q, a, by omega, e⟩
      · have : q ≠ i := fun z => c (z ▸ e)
        have := x1.mpr ⟨q, a, by omega, e⟩; omega) n hn (Int.le_refl n)).2
/-- a sum from behind -/
theorem sum_fr (f : Int → Int) : ∀ n : Nat, it (fun p a => a + f p) 0 ((n + 1 : Nat) : Int) = f 0 + it (fun p a => a + f (p + 1)) 0 (n : Int) := by
  intro n
  induction n with
  | zero =>
    rw [show ((0 + 1 : Nat) : Int) = 0 + 1 by omega, it_s _ _ (by omega)]
    show 0 + f 0 = f 0 + 0
    omega
  | succ n ih =>
    rw [show ((n + 1 + 1 : Nat) : Int) = ((n + 1 : Nat) : Int) + 1 by omega, it_s _ _ (by omega), ih, show ((n + 1 : Nat) : Int) = (n : Int) + 1 by omega, it_s (fun p a => a + f (p + 1)) _ (by omega)]
    show f 0 + it (fun p a => a + f (p + 1)) 0 (n : Int) + f ((n : Int) + 1) = f 0 + (it (fun p a => a + f (p + 1)) 0 (n : Int) + f ((n : Int) + 1))
    omega
theorem sum_rev (f : Int → Int) : ∀ n : Nat, it (fun t a => a + f ((n : Int) - 1 - t)) 0 (n : Int) = it (fun p a => a + f p) 0 (n : Int) := by
  intro n
  induction n with
  | zero => rfl
  | succ n ih =>
    rw [sum_fr (fun t => f (((n + 1 : Nat) : Int) - 1 - t)) n, show ((n + 1 : Nat) : Int) = (n : Int) + 1 by omega, it_s (fun p a => a + f p) _ (by omega)]
    have e : it (fun t a => a + f ((n : Int) + 1 - 1 - (t + 1))) 0 (n : Int) = it (fun t a => a + f ((n : Int) - 1 - t)) 0 (n : Int) :=
      it_cong _ _ _ _ (fun t x _ _ => by
        show x + f ((n : Int) + 1 - 1 - (t + 1)) = x + f ((n : Int) - 1 - t)
        rw [show (n : Int) + 1 - 1 - (t + 1) = (n : Int) - 1 - t by omega])
    show f ((n : Int) + 1 - 1 - 0) + it (fun t a => a + f ((n : Int) + 1 - 1 - (t + 1))) 0 (n : Int) = it (fun p a => a + f p) 0 (n : Int) + f (n : Int)
    rw [e, ih, show (n : Int) + 1 - 1 - 0 = (n : Int) by omega]
    omega
abbrev sok (σ : Int → Int) (p : Int) : Prop := σ (13 + 6 * p + 2) < σ (13 + 6 * p + 1)
theorem rms_c {rm : (Int → Int) → Int → Int → Int} (hr : rmo rm) {n : Int} {σ : Int → Int} (hn : σ 0 = n) (hn0 : 0 ≤ n) (hn2 : n ≤ 16) : ∀ j : Int, 0 ≤ j → j ≤ n → rms rm n σ j 0 = n - it (fun t a => a + bI (sok σ (n - 1 - t))) 0 j ∧ (∀ k : Int, 1 ≤ k → k < 13 + 6 * (n - j) → rms rm n σ j k = σ k) ∧ Emb σ (rms rm n σ j) := by
  intro j j0 j1
  exact it_ind (rmf rm n) σ (fun j st => st 0 = n - it (fun t a => a + bI (sok σ (n - 1 - t))) 0 j ∧ (∀ k : Int, 1 ≤ k → k < 13 + 6 * (n - j) → st k = σ k) ∧ Emb σ st) n ⟨by rw [it_0]; omega, fun k _ _ => rfl, Emb.rf σ⟩ (fun i st i0 i1 hx => by
    obtain ⟨x1, x2, x3⟩ := hx
    have hb := sum_b (fun t => sok σ (n - 1 - t)) i i0
    have e := it_s (fun t a => a + bI (sok σ (n - 1 - t))) 0 i0
    have e : it (fun t a => a + bI (sok σ (n - 1 - t))) 0 (i + 1) = it (fun t a => a + bI (sok σ (n - 1 - t))) 0 i + bI (sok σ (n - 1 - i)) := e
    show rmf rm n i st 0 = n - it (fun t a => a + bI (sok σ (n - 1 - t))) 0 (i + 1) ∧ (∀ k : Int, 1 ≤ k → k < 13 + 6 * (n - (i + 1)) → rmf rm n i st k = σ k) ∧ Emb σ (rmf rm n i st)
    unfold rmf
    have e1 := x2 (13 + 6 * (n - 1 - i) + 1) (by omega) (by omega)
    have e2 := x2 (13 + 6 * (n - 1 - i) + 2) (by omega) (by omega)
    rw [e1, e2, e]
    by_cases c : σ (13 + 6 * (n - 1 - i) + 2) < σ (13 + 6 * (n - 1 - i) + 1)
    · rw [if_pos c, bI_t (show sok σ (n - 1 - i) from c)]
      obtain ⟨y1, y2, -⟩ := hr st (n - 1 - i) (by omega) (by omega) (by omega)
      exact ⟨by omega, fun k k0 k1 => (y2 k k0 (by omega)).trans (x2 k k0 (by omega)), x3.tr (Emb.rm hr (by omega) (by omega) (by omega))⟩
    · rw [if_neg c, bI_f (show ¬ sok σ (n - 1 - i) from c)]
      exact ⟨by omega, fun k k0 k1 => x2 k k0 (by omega), x3⟩) j j0 j1
/-- how many leave -/
def gsm (σ : Int → Int) (d side i : Int) : Int := it (fun p a => a + bI (σ (13 + 6 * p + 2) < wby σ p d side)) 0 i
theorem gsm_s (σ : Int → Int) (d side : Int) {i : Int} (h : 0 ≤ i) : gsm σ d side (i + 1) = gsm σ d side i + bI (σ (13 + 6 * i + 2) < wby σ i d side) := it_s _ _ h
theorem gsm_b (σ : Int → Int) (d side : Int) {n : Int} (hn : 0 ≤ n) : 0 ≤ gsm σ d side n ∧ gsm σ d side n ≤ n := sum_b (fun p => σ (13 + 6 * p + 2) < wby σ p d side) n hn
theorem g8_n (σ : Int → Int) (d side : Int) {k : Int} (h : (k < 14 ∨ 13 + 6 * σ 0 ≤ k ∨ (k - 14) % 6 ≠ 0) ∧ k ≠ 8) : g8 σ d side k = σ k := (up_n _ _ h.2).trans (gw_n σ d side _ h.1)
theorem g8_w (σ : Int → Int) (d side : Int) {q : Int} (h0 : 0 ≤ q) (h1 : q < σ 0) : g8 σ d side (13 + 6 * q + 1) = wby σ q d side := (up_n _ _ (by omega)).trans (gw_y σ d side (σ 0) h0 h1)
/-- what a gust makes of the state -/
theorem gu_E {σ : Int → Int} (h : Jv σ) {d side : Int} (hg : gst d side) (hn : σ 0 ≠ 0) : guA σ d side = gsm σ d side (σ 0) ∧ guW σ d side 0 = σ 0 - gsm σ d side (σ 0) ∧ guW σ d side 3 = σ 3 + gsm σ d side (σ 0) ∧ Emb (g8 σ d side) (guW σ d side) ∧ (∀ k : Int, 1 ≤ k → k < 13 → k ≠ 3 → k ≠ 8 → guW σ d side k = σ k) := by
  obtain ⟨b, f, g⟩ := Iv_iff.mp h.1
  have e0 : g8 σ d side 0 = σ 0 := g8_n σ d side (by omega)
  obtain ⟨r1, r2, r3⟩ := rms_c rmv_o (σ := g8 σ d side) (n := σ 0) e0 b.1 b.2 (σ 0) b.1 (Int.le_refl _)
  have hs : it (fun t a => a + bI (sok (g8 σ d side) (σ 0 - 1 - t))) 0 (σ 0) = gsm σ d side (σ 0) := by
    have hrev := sum_rev (fun p => bI (sok (g8 σ d side) p)) (σ 0).toNat
    rw [show (((σ 0).toNat : Nat) : Int) = σ 0 by omega] at hrev
    refine hrev.trans (it_cong _ _ _ _ (fun p x p0 p1 => ?_))
    have e1 := g8_w σ d side p0 p1
    have e2 : g8 σ d side (13 + 6 * p + 2) = σ (13 + 6 * p + 2) := g8_n σ d side (by omega)
    show x + bI (g8 σ d side (13 + 6 * p + 2) < g8 σ d side (13 + 6 * p + 1)) = x + bI (σ (13 + 6 * p + 2) < wby σ p d side)
    simp only [e1, e2]
  rw [hs] at r1
  have r2 : ∀ k : Int, 1 ≤ k → k < 13 → soA (g8 σ d side) k = g8 σ d side k := fun k k0 k1 => by
    unfold soA; rw [e0]; exact r2 k k0 (by omega)
  have r1 : soA (g8 σ d side) 0 = σ 0 - gsm σ d side (σ 0) := by unfold soA; rw [e0]; exact r1
  have r3 : Emb (g8 σ d side) (soA (g8 σ d side)) := by unfold soA; rw [e0]; exact r3
  have eW : guW σ d side = up (soA (g8 σ d side)) 3 (soA (g8 σ d side) 3 + (g8 σ d side 0 - soA (g8 σ d side) 0)) := by
    unfold guW; rw [if_pos ⟨hg, hn⟩]; rfl
  refine ⟨?_, ?_, ?_, ?_, fun k k0 k1 k3 k8 => ?_⟩
  · unfold guA; rw [if_pos hg, if_neg hn, e0, r1]; omega
  · rw [eW, up_n _ _ (by omega), r1]
  · rw [eW, up_s, e0, r1, r2 3 (by omega) (by omega), g8_n σ d side (k := 3) (by omega)]; omega
  · rw [eW]; exact r3.ups _ (by omega) (by omega)
  · rw [eW, up_n _ _ k3, r2 k k0 k1]; exact g8_n σ d side (by omega)
theorem guW_no {σ : Int → Int} {d side : Int} (h : ¬ (gst d side ∧ σ 0 ≠ 0)) : guW σ d side = σ := if_neg h
theorem gu_J {σ : Int → Int} (h : Jv σ) (d side : Int) : Jv (guW σ d side) ∧ Far σ (guW σ d side) := by
  by_cases c : gst d side ∧ σ 0 ≠ 0
  · obtain ⟨-, e0, e3, hE, el⟩ := gu_E h c.1 c.2
    have hI := guW_I h.1 d side
    have g0 : g8 σ d side 0 = σ 0 := g8_n σ d side (by omega)
    have g1 : g8 σ d side 1 = σ 1 := g8_n σ d side (by omega)
    have gi : ∀ x : Int, 0 ≤ x → x < σ 0 → g8 σ d side (13 + 6 * x + 0) = σ (13 + 6 * x + 0) := fun x x0 x1 => g8_n σ d side (by omega)
    refine ⟨⟨hI, hE.ids (h.2.1.same g0 gi), hE.lt ((el 1 (by omega) (by omega) (by omega) (by omega)).trans g1.symm) (h.2.2.1.same g0 g1 gi), ?_⟩, Far.same (el 4 (by omega) (by omega) (by omega) (by omega)) (el 5 (by omega) (by omega) (by omega) (by omega)) (el 6 (by omega) (by omega) (by omega) (by omega))⟩
    have := h.2.2.2
    unfold Acc at this ⊢
    rw [e0, e3, el 1 (by omega) (by omega) (by omega) (by omega), el 2 (by omega) (by omega) (by omega) (by omega), el 4 (by omega) (by omega) (by omega) (by omega)]
    omega
  · rw [guW_no c]; exact ⟨h, Far.same rfl rfl rfl⟩
/-! where somebody stands -/
theorem plc_c {σ : Int → Int} (x : Int) (h0 : 0 ≤ σ 0) : plc σ x = -5 ∨ (0 ≤ plc σ x ∧ plc σ x < σ 0 ∧ σ (13 + 6 * plc σ x + 0) = x) :=
  it_ind (fun j r => if σ (13 + 6 * (σ 0 - 1 - j) + 0) = x then σ 0 - 1 - j else r) (-5) (fun _ r => r = -5 ∨ (0 ≤ r ∧ r < σ 0 ∧ σ (13 + 6 * r + 0) = x)) (σ 0) (Or.inl rfl) (fun j r j0 j1 hr => by
    show (if σ (13 + 6 * (σ 0 - 1 - j) + 0) = x then σ 0 - 1 - j else r) = -5 ∨ (0 ≤ (if σ (13 + 6 * (σ 0 - 1 - j) + 0) = x then σ 0 - 1 - j else r) ∧ (if σ (13 + 6 * (σ 0 - 1 - j) + 0) = x then σ 0 - 1 - j else r) < σ 0 ∧ σ (13 + 6 * (if σ (13 + 6 * (σ 0 - 1 - j) + 0) = x then σ 0 - 1 - j else r) + 0) = x)
    by_cases c : σ (13 + 6 * (σ 0 - 1 - j) + 0) = x
    · rw [if_pos c]; exact Or.inr ⟨by omega, by omega, c⟩
    · rw [if_neg c]; exact hr) (σ 0) h0 (Int.le_refl _)
theorem id_b {σ : Int → Int} (h : Iv σ) {p : Int} (p0 : 0 ≤ p) (p1 : p < σ 0) : 0 ≤ σ (13 + 6 * p + 0) ∧ σ (13 + 6 * p + 0) ≤ 199 := by
  have := h.2.2.2.2.1 p p0 p1
  omega
theorem plu_in {σ : Int → Int} {x : Int} (h : 0 ≤ x ∧ x ≤ 199) : plu σ x = plc σ x := if_pos h
theorem plu_id {σ : Int → Int} (h : Jv σ) {p : Int} (p0 : 0 ≤ p) (p1 : p < σ 0) : plu σ (σ (13 + 6 * p + 0)) = p := by
  rw [plu_in (id_b h.1 p0 p1)]
  exact plc_at p0 p1 rfl (fun k k0 k1 e => absurd (h.2.1 k p k0 (by omega) p0 p1 e) (by omega))
/-- who is there behind a gust is as wet as was told -/
theorem gu_ok {σ : Int → Int} (h : Jv σ) {d side : Int} (hg : gst d side) {p : Int} (p0 : 0 ≤ p) (p1 : p < σ 0) : plu (guW σ d side) (σ (13 + 6 * p + 0)) = -5 ∨ (0 ≤ plu (guW σ d side) (σ (13 + 6 * p + 0)) ∧ plu (guW σ d side) (σ (13 + 6 * p + 0)) < guW σ d side 0 ∧ guW σ d side (13 + 6 * plu (guW σ d side) (σ (13 + 6 * p + 0)) + 1) = wby σ p d side ∧ wby σ p d side ≤ guW σ d side (13 + 6 * plu (guW σ d side) (σ (13 + 6 * p + 0)) + 2)) := by
  have hn : σ 0 ≠ 0 := by omega
  obtain ⟨-, -, -, hE, -⟩ := gu_E h hg hn
  have hI := guW_I h.1 d side
  rw [plu_in (id_b h.1 p0 p1)]
  rcases plc_c (σ := guW σ d side) (σ (13 + 6 * p + 0)) hI.1.1 with e | ⟨z0, z1, z2⟩
  · exact Or.inl e
  · refine Or.inr ⟨z0, z1, ?_⟩
    generalize plc (guW σ d side) (σ (13 + 6 * p + 0)) = z at z0 z1 z2 ⊢
    obtain ⟨g, a, -⟩ := hE
    obtain ⟨⟨c0, c1⟩, c2⟩ := a z z0 z1
    have g0 : g8 σ d side 0 = σ 0 := g8_n σ d side (by omega)
    rw [g0] at c1
    have e0 := c2 0 (by omega) (by omega)
    rw [z2, g8_n σ d side (by omega)] at e0
    have ep : p = g z := h.2.1 p (g z) p0 p1 c0 c1 e0
    have e1 := c2 1 (by omega) (by omega)
    rw [g8_w σ d side c0 c1, ← ep] at e1
    refine ⟨e1, ?_⟩
    rw [← e1]
    exact hI.2.2.2.2.2.1 z z0 z1
