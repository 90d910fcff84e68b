/-! The ranges are kept by all acts. -/
def Pv (σ : Int → Int) (x : Int) : Prop := (0 ≤ σ (13 + 6 * x + 4) ∧ σ (13 + 6 * x + 4) ≤ 5) ∧ (0 ≤ σ (13 + 6 * x + 1) ∧ σ (13 + 6 * x + 1) ≤ 999) ∧ (10 ≤ σ (13 + 6 * x + 2) ∧ σ (13 + 6 * x + 2) ≤ 999) ∧ (0 ≤ σ (13 + 6 * x + 3) ∧ σ (13 + 6 * x + 3) ≤ 9999) ∧ (0 ≤ σ (13 + 6 * x + 0) ∧ σ (13 + 6 * x + 0) < 200)
def Uv (σ : Int → Int) (x : Int) : Prop := σ (13 + 6 * x + 1) ≤ σ (13 + 6 * x + 2)
def Cv (σ : Int → Int) : Prop := (0 ≤ σ 1 ∧ σ 1 ≤ 200) ∧ (0 ≤ σ 9 ∧ σ 9 ≤ 99999) ∧ (0 ≤ σ 10 ∧ σ 10 ≤ 50) ∧ (1 ≤ σ 11 ∧ σ 11 ≤ 4) ∧ (0 ≤ σ 12 ∧ σ 12 ≤ 99)
theorem Iv_iff {σ : Int → Int} : Iv σ ↔ (0 ≤ σ 0 ∧ σ 0 ≤ 16) ∧ (∀ x : Int, 0 ≤ x → x < σ 0 → Pv σ x ∧ Uv σ x) ∧ Cv σ := by
  constructor
  · rintro ⟨h1, h2, h3, h4, h5, h6, h7⟩
    exact ⟨⟨h1.1, h1.2.1⟩, fun x x0 x1 => ⟨⟨h1.2.2 x x0 x1, h2 x x0 x1, h3 x x0 x1, h4 x x0 x1, h5 x x0 x1⟩, h6 x x0 x1⟩, h7⟩
  · rintro ⟨h1, h2, h3⟩
    exact ⟨⟨h1.1, h1.2, fun x x0 x1 => (h2 x x0 x1).1.1⟩, fun x x0 x1 => (h2 x x0 x1).1.2.1, fun x x0 x1 => (h2 x x0 x1).1.2.2.1, fun x x0 x1 => (h2 x x0 x1).1.2.2.2.1, fun x x0 x1 => (h2 x x0 x1).1.2.2.2.2, fun x x0 x1 => (h2 x x0 x1).2, h3⟩
theorem Pv_of {σ σ' : Int → Int} {x y : Int} (h : Pv σ y) (e : ∀ k : Int, 0 ≤ k → k < 5 → σ' (13 + 6 * x + k) = σ (13 + 6 * y + k)) : Pv σ' x := by
  unfold Pv at h ⊢
  rw [e 4 (by omega) (by omega), e 1 (by omega) (by omega), e 2 (by omega) (by omega), e 3 (by omega) (by omega), e 0 (by omega) (by omega)]
  exact h
theorem Uv_of {σ σ' : Int → Int} {x y : Int} (h : Uv σ y) (e : ∀ k : Int, 0 ≤ k → k < 5 → σ' (13 + 6 * x + k) = σ (13 + 6 * y + k)) : Uv σ' x := by
  unfold Uv at h ⊢
  rw [e 1 (by omega) (by omega), e 2 (by omega) (by omega)]
  exact h
theorem Cv_of {σ σ' : Int → Int} (h : Cv σ) (e1 : σ' 1 = σ 1) (e9 : σ' 9 = σ 9) (e10 : σ' 10 = σ 10) (e11 : σ' 11 = σ 11) (e12 : σ' 12 = σ 12) : Cv σ' := by
  unfold Cv at h ⊢; rw [e1, e9, e10, e11, e12]; exact h
/-- how somebody goes: all behind come on -/
def rmo (rm : (Int → Int) → Int → Int → Int) : Prop := ∀ (st : Int → Int) (p : Int), 0 ≤ p → p < st 0 → st 0 ≤ 16 → rm st p 0 = st 0 - 1 ∧ (∀ k : Int, 1 ≤ k → k < 13 + 6 * p → rm st p k = st k) ∧ ∀ k : Int, 13 + 6 * p ≤ k → k < 13 + 6 * (st 0 - 1) → rm st p k = st (k + 6)
theorem rmo_ok {rm : (Int → Int) → Int → Int → Int} (h : rmo rm) : rmok rm := fun st p h0 h1 h2 => ⟨(h st p h0 h1 h2).1, (h st p h0 h1 h2).2.1⟩
theorem goes_mid (σ : Int → Int) {p k : Int} (h0 : 0 ≤ p) (h1 : 13 + 6 * p ≤ k) (h2 : k < 13 + 6 * (σ 0 - 1)) : goes σ p k = σ (k + 6) := by
  unfold goes gs2 gs1
  rw [if_neg (by omega), if_neg (by omega), if_pos (by omega)]
theorem goes_o : rmo goes := fun st p h0 h1 h2 => ⟨goes_0 st p (by omega), fun k k0 k1 => goes_lo st h1 k0 k1, fun k k0 k1 => goes_mid st h0 k0 k1⟩
theorem rm_P {rm : (Int → Int) → Int → Int → Int} (hr : rmo rm) {st : Int → Int} {p : Int} (h0 : 0 ≤ p) (h1 : p < st 0) (h2 : st 0 ≤ 16) (x : Int) (x0 : 0 ≤ x) (x1 : x < st 0 - 1) : ∀ k : Int, 0 ≤ k → k < 6 → rm st p (13 + 6 * x + k) = st (13 + 6 * (if x < p then x else x + 1) + k) := by
  obtain ⟨-, y2, y3⟩ := hr st p h0 h1 h2
  intro k k0 k1
  split
  · exact y2 _ (by omega) (by omega)
  · rw [y3 _ (by omega) (by omega)]; congr 1; omega
theorem rm_I {rm : (Int → Int) → Int → Int → Int} (hr : rmo rm) {st : Int → Int} {p : Int} (h : Iv st) (h0 : 0 ≤ p) (h1 : p < st 0) : Iv (rm st p) := by
  obtain ⟨b, f, g⟩ := Iv_iff.mp h
  obtain ⟨y1, y2, -⟩ := hr st p h0 h1 b.2
  refine Iv_iff.mpr ⟨by omega, fun x x0 x1 => ?_, Cv_of g (y2 1 (by omega) (by omega)) (y2 9 (by omega) (by omega)) (y2 10 (by omega) (by omega)) (y2 11 (by omega) (by omega)) (y2 12 (by omega) (by omega))⟩
  have e := rm_P hr h0 h1 b.2 x x0 (by omega)
  have hy : 0 ≤ (if x < p then x else x + 1) ∧ (if x < p then x else x + 1) < st 0 := by split <;> omega
  have := f _ hy.1 hy.2
  exact ⟨Pv_of this.1 (fun k k0 k1 => e k k0 (by omega)), Uv_of this.2 (fun k k0 k1 => e k k0 (by omega))⟩
theorem up_I {σ : Int → Int} {i v : Int} (h : Iv σ) (hi : 2 ≤ i ∧ i ≤ 8) : Iv (up σ i v) := by
  obtain ⟨b, f, g⟩ := Iv_iff.mp h
  have e0 : up σ i v 0 = σ 0 := up_n _ _ (by omega)
  refine Iv_iff.mpr ⟨by rw [e0]; exact b, fun x x0 x1 => ?_, Cv_of g (up_n _ _ (by omega)) (up_n _ _ (by omega)) (up_n _ _ (by omega)) (up_n _ _ (by omega)) (up_n _ _ (by omega))⟩
  rw [e0] at x1
  exact ⟨Pv_of (f x x0 x1).1 (fun k k0 k1 => up_n _ _ (by omega)), Uv_of (f x x0 x1).2 (fun k k0 k1 => up_n _ _ (by omega))⟩
theorem lev_I {σ : Int → Int} (h : Iv σ) (p : Int) : Iv (levv σ p) := by
  unfold levv
  split
  · exact up_I (rm_I goes_o h (by omega) (by omega)) (by omega)
  · exact h
theorem com_lo (σ : Int → Int) (pa co wi : Int) (hn : 0 ≤ σ 0) {k : Int} (h : 2 ≤ k) (h1 : k < 13 + 6 * σ 0) : com σ pa co wi k = σ k := by
  show up _ 1 _ k = σ k
  rw [up_n _ _ (by omega), up_n _ _ (by omega), up_n _ _ (by omega), up_n _ _ (by omega), up_n _ _ (by omega), up_n _ _ (by omega), up_n _ _ (by omega), up_n _ _ (by omega)]
theorem com_0 (σ : Int → Int) (pa co wi : Int) (hn : 0 ≤ σ 0) : com σ pa co wi 0 = σ 0 + 1 := by
  show up _ 1 _ 0 = σ 0 + 1
  rw [up_n _ _ (by omega), up_n _ _ (by omega), up_n _ _ (by omega), up_n _ _ (by omega), up_n _ _ (by omega), up_n _ _ (by omega), up_n _ _ (by omega), up_s]
theorem com_1 (σ : Int → Int) (pa co wi : Int) (hn : 0 ≤ σ 0) : com σ pa co wi 1 = σ 1 + 1 := by
  show up _ 1 _ 1 = σ 1 + 1
  rw [up_s, up_n _ _ (by omega), up_n _ _ (by omega), up_n _ _ (by omega), up_n _ _ (by omega), up_n _ _ (by omega), up_n _ _ (by omega), up_n _ _ (by omega)]
theorem com_p (σ : Int → Int) (pa co wi : Int) (hn : 0 ≤ σ 0) : com σ pa co wi (13 + 6 * σ 0 + 0) = σ 1 ∧ com σ pa co wi (13 + 6 * σ 0 + 1) = 0 ∧ com σ pa co wi (13 + 6 * σ 0 + 2) = pa ∧ com σ pa co wi (13 + 6 * σ 0 + 3) = co ∧ com σ pa co wi (13 + 6 * σ 0 + 4) = wi ∧ com σ pa co wi (13 + 6 * σ 0 + 5) = 0 := by
  refine ⟨?_, ?_, ?_, ?_, ?_, ?_⟩
  · show up _ 1 _ (13 + 6 * σ 0 + 0) = σ 1
    rw [up_n _ _ (by omega), up_n _ _ (by omega), up_n _ _ (by omega), up_n _ _ (by omega), up_n _ _ (by omega), up_n _ _ (by omega), up_s, up_n _ _ (by omega)]
  · show up _ 1 _ (13 + 6 * σ 0 + 1) = 0
    rw [up_n _ _ (by omega), up_n _ _ (by omega), up_n _ _ (by omega), up_n _ _ (by omega), up_n _ _ (by omega), up_s]
  · show up _ 1 _ (13 + 6 * σ 0 + 2) = pa
    rw [up_n _ _ (by omega), up_n _ _ (by omega), up_n _ _ (by omega), up_n _ _ (by omega), up_s]
  · show up _ 1 _ (13 + 6 * σ 0 + 3) = co
    rw [up_n _ _ (by omega), up_n _ _ (by omega), up_n _ _ (by omega), up_s]
  · show up _ 1 _ (13 + 6 * σ 0 + 4) = wi
    rw [up_n _ _ (by omega), up_n _ _ (by omega), up_s]
  · show up _ 1 _ (13 + 6 * σ 0 + 5) = 0
    rw [up_n _ _ (by omega), up_s]
theorem com_I {σ : Int → Int} (h : Iv σ) (pa co wi : Int) : Iv (comv σ pa co wi) := by
  unfold comv
  obtain ⟨b, f, g⟩ := Iv_iff.mp h
  by_cases hu : 0 ≤ comu σ pa co wi
  · rw [if_pos hu]
    have hc : comok pa co wi ∧ ¬ (σ 0 = 16 ∨ σ 1 = 200) := by
      unfold comu at hu
      by_cases h1 : comok pa co wi
      · rw [if_pos h1] at hu
        refine ⟨h1, fun h2 => ?_⟩
        rw [if_pos h2] at hu; omega
      · rw [if_neg h1] at hu; omega
    have e0 := com_0 σ pa co wi b.1
    have e1 := com_1 σ pa co wi b.1
    have ep := com_p σ pa co wi b.1
    have g1 := g.1
    refine Iv_iff.mpr ⟨by omega, fun x x0 x1 => ?_, ?_⟩
    · by_cases hx : x < σ 0
      · exact ⟨Pv_of (f x x0 hx).1 (fun k k0 k1 => com_lo σ pa co wi b.1 (by omega) (by omega)), Uv_of (f x x0 hx).2 (fun k k0 k1 => com_lo σ pa co wi b.1 (by omega) (by omega))⟩
      · have : x = σ 0 := by omega
        subst this
        unfold Pv Uv
        rw [ep.1, ep.2.1, ep.2.2.1, ep.2.2.2.1, ep.2.2.2.2.1]
        omega
    · unfold Cv
      rw [e1, com_lo σ pa co wi b.1 (k := 9) (by omega) (by omega), com_lo σ pa co wi b.1 (k := 10) (by omega) (by omega), com_lo σ pa co wi b.1 (k := 11) (by omega) (by omega), com_lo σ pa co wi b.1 (k := 12) (by omega) (by omega)]
      exact ⟨by omega, g.2⟩
  · rw [if_neg hu]; exact h
theorem lt_I {σ : Int → Int} (h : Iv σ) (p : Int) : Iv (ltv σ p) := by
  unfold ltv
  obtain ⟨b, f, g⟩ := Iv_iff.mp h
  by_cases hp : pair σ p
  · rw [if_pos hp]
    obtain ⟨x1, x2, -, x4⟩ := xls_i σ (p := p) (by omega) 6 (by omega) (by omega)
    have e0 := x1 0 (by omega)
    refine Iv_iff.mpr ⟨by rw [e0]; exact b, fun x y0 y1 => ?_, Cv_of g (x1 1 (by omega)) (x1 9 (by omega)) (x1 10 (by omega)) (x1 11 (by omega)) (x1 12 (by omega))⟩
    rw [e0] at y1
    by_cases h1 : x = p
    · subst h1
      have := f (x + 1) (by omega) (by omega)
      exact ⟨Pv_of this.1 (fun k k0 k1 => (x2 k k0 (by omega)).1), Uv_of this.2 (fun k k0 k1 => (x2 k k0 (by omega)).1)⟩
    · by_cases h2 : x = p + 1
      · subst h2
        have := f p (by omega) (by omega)
        exact ⟨Pv_of this.1 (fun k k0 k1 => (x2 k k0 (by omega)).2), Uv_of this.2 (fun k k0 k1 => (x2 k k0 (by omega)).2)⟩
      · have := f x y0 y1
        exact ⟨Pv_of this.1 (fun k k0 k1 => x4 _ (by omega) (by omega)), Uv_of this.2 (fun k k0 k1 => x4 _ (by omega) (by omega))⟩
  · rw [if_neg hp]; exact h
theorem sw3_lo (σ : Int → Int) {p k : Int} (hp : 0 ≤ p) (h : k < 13) (h7 : k ≠ 7) : sw3 σ p k = σ k := by
  unfold sw3 sw2 sw1
  rw [up_n _ _ (by omega), up_n _ _ (by omega), up_n _ _ (by omega), xch_lo σ hp (by omega) h]
theorem sw3_at (σ : Int → Int) {p x k : Int} (hp : 0 ≤ p) (hx : 0 ≤ x) (h0 : 0 ≤ k) (h : k < 4) : sw3 σ p (13 + 6 * x + k) = σ (13 + 6 * x + k) := by
  unfold sw3 sw2 sw1 xch
  rw [up_n _ _ (by omega), up_n _ _ (by omega), up_n _ _ (by omega), up_n _ _ (by omega), up_n _ _ (by omega)]
theorem sw3_w (σ : Int → Int) {p x : Int} (hp : 0 ≤ p) (hx : 0 ≤ x) : sw3 σ p (13 + 6 * x + 4) = if x = p + 1 then σ (13 + 6 * p + 4) else if x = p then σ (13 + 6 * (p + 1) + 4) else σ (13 + 6 * x + 4) := by
  unfold sw3 sw2 sw1
  rw [up_n _ _ (by omega), up_n _ _ (by omega), up_n _ _ (by omega)]
  unfold xch up
  by_cases h1 : x = p + 1
  · rw [if_pos (by omega), if_pos h1]
  · rw [if_neg (by omega), if_neg h1]
    by_cases h2 : x = p
    · rw [if_pos (by omega), if_pos h2]
    · rw [if_neg (by omega), if_neg h2]
theorem sw_I {σ : Int → Int} (h : Iv σ) (p : Int) : Iv (swv σ p) := by
  unfold swv
  obtain ⟨b, f, g⟩ := Iv_iff.mp h
  by_cases hp : pair σ p ∧ ¬ 0 < why σ p
  · rw [if_pos hp]
    have p0 : 0 ≤ p := hp.1.1
    have e0 := sw3_lo σ (k := 0) p0 (by omega) (by omega)
    refine Iv_iff.mpr ⟨by rw [e0]; exact b, fun x y0 y1 => ?_, Cv_of g (sw3_lo σ p0 (by omega) (by omega)) (sw3_lo σ p0 (by omega) (by omega)) (sw3_lo σ p0 (by omega) (by omega)) (sw3_lo σ p0 (by omega) (by omega)) (sw3_lo σ p0 (by omega) (by omega))⟩
    rw [e0] at y1
    have f1 := f x y0 y1
    have f2 := (f p (by omega) (by omega)).1.1
    have f3 := (f (p + 1) (by omega) (by omega)).1.1
    unfold Pv Uv at f1 ⊢
    rw [sw3_w σ p0 y0, sw3_at σ p0 y0 (k := 0) (by omega) (by omega), sw3_at σ p0 y0 (k := 1) (by omega) (by omega), sw3_at σ p0 y0 (k := 2) (by omega) (by omega), sw3_at σ p0 y0 (k := 3) (by omega) (by omega)]
    refine ⟨⟨?_, f1.1.2⟩, f1.2⟩
    split
    · exact f2
    · split
      · exact f3
      · exact f1.1.1
  · rw [if_neg hp]; exact h
theorem set_I {σ : Int → Int} (h : Iv σ) (wh v : Int) : Iv (setv σ wh v) := by
  unfold setv
  obtain ⟨b, f, g⟩ := Iv_iff.mp h
  by_cases hu : 0 ≤ setu σ wh v
  · rw [if_pos hu]
    have hc : (0 ≤ wh ∧ wh ≤ 2) ∧ (slo wh ≤ v ∧ v ≤ shi wh) := by
      unfold setu at hu
      by_cases h1 : 0 ≤ wh ∧ wh ≤ 2
      · rw [if_pos h1] at hu
        by_cases h2 : slo wh ≤ v ∧ v ≤ shi wh
        · exact ⟨h1, h2⟩
        · rw [if_neg h2] at hu; omega
      · rw [if_neg h1] at hu; omega
    have e0 : up σ (10 + wh) v 0 = σ 0 := up_n _ _ (by omega)
    refine Iv_iff.mpr ⟨by rw [e0]; exact b, fun x y0 y1 => ?_, ?_⟩
    · rw [e0] at y1
      exact ⟨Pv_of (f x y0 y1).1 (fun k k0 k1 => up_n _ _ (by omega)), Uv_of (f x y0 y1).2 (fun k k0 k1 => up_n _ _ (by omega))⟩
    · obtain ⟨c1, c2⟩ := hc
      unfold slo shi at c2
      unfold Cv at g ⊢
      unfold up
      rw [if_neg (by omega), if_neg (by omega)]
      refine ⟨g.1, g.2.1, ?_, ?_, ?_⟩
      · (repeat' split) <;> omega
      · (repeat' split) <;> omega
      · (repeat' split) <;> omega
  · rw [if_neg hu]; exact h
theorem dr_I {σ : Int → Int} (h : Iv σ) {mi : Int} (hm : 0 ≤ mi) : Iv (dr σ mi (σ 0)) := by
  obtain ⟨b, f, g⟩ := Iv_iff.mp h
  have e0 : dr σ mi (σ 0) 0 = σ 0 := dr_n σ mi _ (by omega)
  refine Iv_iff.mpr ⟨by rw [e0]; exact b, fun x y0 y1 => ?_, Cv_of g (dr_n σ mi _ (by omega)) (dr_n σ mi _ (by omega)) (dr_n σ mi _ (by omega)) (dr_n σ mi _ (by omega)) (dr_n σ mi _ (by omega))⟩
  rw [e0] at y1
  have f1 := f x y0 y1
  have hw : dr σ mi (σ 0) (13 + 6 * x + 1) = max 0 (σ (13 + 6 * x + 1) - mi * σ 10) := by unfold dr; rw [if_pos (by omega)]
  have hm2 : 0 ≤ mi * σ 10 := Int.mul_nonneg hm g.2.2.1.1
  unfold Pv Uv at f1 ⊢
  rw [hw, dr_n σ mi (σ 0) (k := 13 + 6 * x + 0) (by omega), dr_n σ mi (σ 0) (k := 13 + 6 * x + 2) (by omega), dr_n σ mi (σ 0) (k := 13 + 6 * x + 3) (by omega), dr_n σ mi (σ 0) (k := 13 + 6 * x + 4) (by omega)]
  omega
theorem up9_I {σ : Int → Int} {v : Int} (h : Iv σ) (hv : 0 ≤ v ∧ v ≤ 99999) : Iv (up σ 9 v) := by
  obtain ⟨b, f, g⟩ := Iv_iff.mp h
  have e0 : up σ 9 v 0 = σ 0 := up_n _ _ (by omega)
  refine Iv_iff.mpr ⟨by rw [e0]; exact b, fun x x0 x1 => ?_, ?_⟩
  · rw [e0] at x1
    exact ⟨Pv_of (f x x0 x1).1 (fun k k0 k1 => up_n _ _ (by omega)), Uv_of (f x x0 x1).2 (fun k k0 k1 => up_n _ _ (by omega))⟩
  · unfold Cv at g ⊢
    rw [up_n σ v (show (1 : Int) ≠ 9 by omega), up_s, up_n σ v (show (10 : Int) ≠ 9 by omega), up_n σ v (show (11 : Int) ≠ 9 by omega), up_n σ v (show (12 : Int) ≠ 9 by omega)]
    exact ⟨g.1, hv, g.2.2⟩
theorem pas_I {σ : Int → Int} (h : Iv σ) {mi : Int} (hm : 0 ≤ mi) : Iv (pas σ mi) := by
  unfold pas
  have g := (Iv_iff.mp h).2.2
  have g9 := g.2.1
  split
  · exact h
  · exact up9_I (dr_I h hm) (by omega)
theorem srs_I {σ : Int → Int} (h : Iv σ) {k : Int} (h0 : 0 ≤ k) (h1 : k ≤ σ 0) : Iv (srs σ k) := by
  obtain ⟨b, f, g⟩ := Iv_iff.mp h
  have e0 := srs_z σ k
  have el : ∀ j : Int, 1 ≤ j → j < 13 → srs σ k j = σ j := fun j j0 j1 => by
    unfold srs; rw [if_neg (by omega), if_neg (by omega), if_neg (by omega)]
  refine Iv_iff.mpr ⟨by omega, fun x x0 x1 => ?_, Cv_of g (el 1 (by omega) (by omega)) (el 9 (by omega) (by omega)) (el 10 (by omega) (by omega)) (el 11 (by omega) (by omega)) (el 12 (by omega) (by omega))⟩
  rw [e0] at x1
  have := f (x + k) (by omega) (by omega)
  have e : ∀ j : Int, 0 ≤ j → j < 5 → srs σ k (13 + 6 * x + j) = σ (13 + 6 * (x + k) + j) := fun j j0 j1 => by
    unfold srs; rw [if_neg (by omega), if_pos (by omega)]; congr 1; omega
  exact ⟨Pv_of this.1 e, Uv_of this.2 e⟩
theorem sev_I {σ : Int → Int} (h : Iv σ) : Iv (sev σ) := by
  unfold sev
  obtain ⟨b, f, g⟩ := Iv_iff.mp h
  split
  · exact h
  · have h3 : Iv (sv3 σ) := up_I (up_I (up_I h (by omega)) (by omega)) (by omega)
    have hs := srv_b (σ := σ) (by omega) g.2.2.2.1
    have e3 : sv3 σ 0 = σ 0 := by simp [sv3, sv2, sv1, up]
    exact srs_I h3 (by omega) (by omega)
/-- the ranges, but that somebody may be too wet -/
theorem gw_P {σ : Int → Int} (h : Iv σ) {d side : Int} (hd : 1 ≤ d) (hd2 : d ≤ 99) : ∀ x : Int, 0 ≤ x → x < σ 0 → Pv (gw σ d side (σ 0)) x := by
  intro x x0 x1
  obtain ⟨b, f, g⟩ := Iv_iff.mp h
  have f1 := (f x x0 x1).1
  have hw := gw_y σ d side (σ 0) x0 x1
  have hb := wby_b h.1 (p := x) (side := side) hd hd2 f1.2.1.1
  unfold Pv at f1 ⊢
  rw [hw, gw_n σ d side (σ 0) (k := 13 + 6 * x + 0) (by omega), gw_n σ d side (σ 0) (k := 13 + 6 * x + 2) (by omega), gw_n σ d side (σ 0) (k := 13 + 6 * x + 3) (by omega), gw_n σ d side (σ 0) (k := 13 + 6 * x + 4) (by omega)]
  exact ⟨f1.1, hb, f1.2.2⟩
theorem rms_I {rm : (Int → Int) → Int → Int → Int} (hr : rmo rm) {n : Int} {σ : Int → Int} (hn : σ 0 = n) (hn0 : 0 ≤ n) (hn2 : n ≤ 16) (hP : ∀ x : Int, 0 ≤ x → x < n → Pv σ x) (hC : Cv σ) : Iv (rms rm n σ n) := by
  have key := it_ind (rmf rm n) σ (fun j st => st 0 ≤ n ∧ n - j ≤ st 0 ∧ (∀ x : Int, 0 ≤ x → x < st 0 → Pv st x ∧ (n - j ≤ x → Uv st x)) ∧ Cv st) n ⟨by omega, by omega, fun x x0 x1 => ⟨hP x x0 (by omega), fun h => absurd h (by omega)⟩, hC⟩ (fun j st h0 h1 hx => by
    show rmf rm n j st 0 ≤ n ∧ n - (j + 1) ≤ rmf rm n j st 0 ∧ (∀ x : Int, 0 ≤ x → x < rmf rm n j st 0 → Pv (rmf rm n j st) x ∧ (n - (j + 1) ≤ x → Uv (rmf rm n j st) x)) ∧ Cv (rmf rm n j st)
    obtain ⟨x1, x2, x3, x4⟩ := hx
    unfold rmf
    by_cases hc : st (13 + 6 * (n - 1 - j) + 2) < st (13 + 6 * (n - 1 - j) + 1)
    · rw [if_pos hc]
      obtain ⟨y1, y2, -⟩ := hr st (n - 1 - j) (by omega) (by omega) (by omega)
      refine ⟨by omega, by omega, fun x w0 w1 => ?_, Cv_of x4 (y2 1 (by omega) (by omega)) (y2 9 (by omega) (by omega)) (y2 10 (by omega) (by omega)) (y2 11 (by omega) (by omega)) (y2 12 (by omega) (by omega))⟩
      have e := rm_P hr (st := st) (p := n - 1 - j) (by omega) (by omega) (by omega) x w0 (by omega)
      by_cases hx : x < n - 1 - j
      · simp only [if_pos hx] at e
        exact ⟨Pv_of (x3 x w0 (by omega)).1 (fun k k0 k1 => e k k0 (by omega)), fun hh => absurd hh (by omega)⟩
      · simp only [if_neg hx] at e
        have := x3 (x + 1) (by omega) (by omega)
        exact ⟨Pv_of this.1 (fun k k0 k1 => e k k0 (by omega)), fun _ => Uv_of (this.2 (by omega)) (fun k k0 k1 => e k k0 (by omega))⟩
    · rw [if_neg hc]
      refine ⟨by omega, by omega, fun x w0 w1 => ⟨(x3 x w0 w1).1, fun hh => ?_⟩, x4⟩
      by_cases hx : n - j ≤ x
      · exact (x3 x w0 w1).2 hx
      · have : x = n - 1 - j := by omega
        subst this
        unfold Uv; omega) n hn0 (Int.le_refl n)
  obtain ⟨k1, k2, k3, k4⟩ := key
  refine Iv_iff.mpr ⟨?_, fun x x0 x1 => ?_, k4⟩
  · show 0 ≤ it (rmf rm n) σ n 0 ∧ it (rmf rm n) σ n 0 ≤ 16
    omega
  · have := k3 x x0 x1
    exact ⟨this.1, this.2 (by omega)⟩
theorem gR_I {σ : Int → Int} (h : Iv σ) {d side : Int} (hd : 1 ≤ d) (hd2 : d ≤ 99) : Iv (gR σ d side) := by
  obtain ⟨b, f, g⟩ := Iv_iff.mp h
  exact rms_I goes_o (gw_n σ d side _ (by omega)) b.1 b.2 (gw_P h hd hd2) (Cv_of g (gw_n σ d side _ (by omega)) (gw_n σ d side _ (by omega)) (gw_n σ d side _ (by omega)) (gw_n σ d side _ (by omega)) (gw_n σ d side _ (by omega)))
theorem gus_I {σ : Int → Int} (h : Iv σ) {d side : Int} (hd : 1 ≤ d) (hd2 : d ≤ 99) : Iv (gus σ d side) := by
  unfold gus
  split
  · exact h
  · exact up_I (up_I (gR_I h hd hd2) (by omega)) (by omega)
theorem gur_b {σ : Int → Int} (h : Iv σ) {d side : Int} (hd : 1 ≤ d) (hd2 : d ≤ 99) : -5 ≤ gur σ d side ∧ gur σ d side ≤ 16 ∧ (gur σ d side < 0 → gur σ d side = -5) := by
  obtain ⟨b, f, g⟩ := Iv_iff.mp h
  have hR := rms_i goes_ok (σ := gw σ d side (σ 0)) (n := σ 0) (gw_n σ d side (σ 0) (by omega)) b.2 (σ 0) b.1 (Int.le_refl _)
  have h1 : gR σ d side 0 ≤ σ 0 := hR.1
  have h2 : σ 0 - σ 0 ≤ gR σ d side 0 := hR.2.1
  unfold gur
  split <;> omega
theorem seu_b {σ : Int → Int} (h : Iv σ) : -5 ≤ seu σ ∧ seu σ ≤ 9999 ∧ (seu σ < 0 → seu σ = -5) := by
  obtain ⟨hW, hE, hP, hC, hN, hU, h1, h9, h10, h11, h12⟩ := h
  unfold seu
  by_cases h0 : σ 0 = 0
  · rw [if_pos h0]; omega
  · rw [if_neg h0]
    have := hW.1
    have := hW.2.1
    have hs := srv_b (σ := σ) (by omega) h11
    have hd := dri_b σ (n := srv σ) (by omega)
    have hc := hC (dri σ (srv σ)) (by omega) (by omega)
    have hf := far_b (x := srv σ) (d := σ 12) (by omega) (by omega) h12.1 h12.2
    unfold cpd; omega
theorem pau_b {σ : Int → Int} (h : Iv σ) (mi : Int) : -3 ≤ pau σ mi ∧ pau σ mi ≤ 16 ∧ (pau σ mi < 0 → pau σ mi = -3 ∧ pas σ mi = σ) := by
  have hb := drn_b σ mi h.1.1
  have := h.1.2.1
  unfold pau pas
  split
  · exact ⟨by omega, by omega, fun _ => ⟨rfl, rfl⟩⟩
  · exact ⟨by omega, by omega, fun hh => absurd hh (by omega)⟩
theorem swu_b {σ : Int → Int} (h : Iv σ) (p : Int) : -13 ≤ swu σ p ∧ swu σ p ≤ 5 ∧ (swu σ p < 0 → (swu σ p = -1 ∨ swu σ p ≤ -11) ∧ swv σ p = σ) := by
  have hy := why_b σ p
  unfold swu swv
  by_cases hp : pair σ p
  · rw [if_pos hp]
    by_cases hw : 0 < why σ p
    · rw [if_pos hw, if_neg (by omega)]
      exact ⟨by omega, by omega, fun _ => ⟨by omega, rfl⟩⟩
    · rw [if_neg hw, sw3_w σ hp.1 hp.1, if_neg (by omega), if_pos rfl]
      have := h.1.2.2 (p + 1) (by omega) (by omega)
      exact ⟨by omega, by omega, fun hh => absurd hh (by omega)⟩
  · rw [if_neg hp, if_neg (by omega)]
    exact ⟨by omega, by omega, fun _ => ⟨by omega, rfl⟩⟩
abbrev exok (cL nu sd : Int) : Prop := (cL = 103 → (1 ≤ nu ∧ nu ≤ 99) ∧ (0 ≤ sd ∧ sd ≤ 2)) ∧ (cL = 46 → 1 ≤ nu ∧ nu ≤ 99) ∧ (0 ≤ nu ∧ nu ≤ 99)
theorem exV_I {σ : Int → Int} (h : Iv σ) {cL nu sd : Int} (hv : exok cL nu sd) : Iv (exV σ cL nu sd) := by
  unfold exV
  by_cases c1 : cL = 103
  · rw [if_pos c1]; exact gus_I h (hv.1 c1).1.1 (hv.1 c1).1.2
  · rw [if_neg c1]
    by_cases c2 : cL = 46
    · rw [if_pos c2]; exact pas_I h (by omega)
    · rw [if_neg c2]
      split
      · exact sev_I h
      · exact sw_I h nu
theorem exU_b {σ : Int → Int} (h : Iv σ) {cL nu sd : Int} (hv : exok cL nu sd) : -13 ≤ exU σ cL nu sd ∧ exU σ cL nu sd ≤ 9999 ∧ (exU σ cL nu sd < 0 → exU σ cL nu sd = -5 ∨ exU σ cL nu sd = -3 ∨ exU σ cL nu sd = -1 ∨ exU σ cL nu sd ≤ -11) := by
  unfold exU
  by_cases c1 : cL = 103
  · rw [if_pos c1]; have := gur_b h (side := sd) (hv.1 c1).1.1 (hv.1 c1).1.2; omega
  · rw [if_neg c1]
    by_cases c2 : cL = 46
    · rw [if_pos c2]; have := pau_b h nu; omega
    · rw [if_neg c2]
      split
      · have := seu_b h; omega
      · have := swu_b h nu; omega
theorem tok_ex {τ : Int → Int} {le P : Int} (h : tok τ le P) : exok (ltr τ le P) (tnu τ le P) (tsi τ le P) := by
  have h1 := tnu_b h
  have h2 := tsi_b τ le P
  refine ⟨fun hh => ⟨⟨h1.2.2.2 (Or.inl hh), h1.2.1⟩, h2.1, h2.2.1⟩, fun hh => ⟨h1.2.2.2 (Or.inr hh), h1.2.1⟩, h1.1, h1.2.1⟩
theorem er_b (τ σ : Int → Int) (le : Int) (hl : 0 ≤ le) : (er τ σ le).2.2 ≤ 0 ∧ -10 < (er τ σ le).2.2 := by
  have hf := itp_b τ hl 40 (by omega)
  have h0 : 0 ≤ (fin τ le).2 := hf.1
  have := it_ind (ers1 τ le) (σ, 0, 0) (fun _ x => x.2.2 ≤ 0 ∧ -10 < x.2.2) ((fin τ le).2 + 1) ⟨Int.le_refl 0, by show (-10 : Int) < 0; omega⟩ (fun i x h1 h2 hx => by
    show (ers1 τ le i x).2.2 ≤ 0 ∧ -10 < (ers1 τ le i x).2.2
    unfold ers1
    split
    · split
      · next hs => exact ⟨by show xU τ x.1 le (itp τ le i).1 ≤ 0; omega, hs.2.2⟩
      · exact ⟨Int.le_refl 0, by show (-10 : Int) < 0; omega⟩
    · exact hx) ((fin τ le).2 + 1) (by omega) (Int.le_refl _)
  exact this
/-! perform -/
def pfU (τ σ : Int → Int) (le : Int) : Int := if wok τ le then (if (er τ σ le).2.2 < 0 then -4 else (er τ σ le).2.1) else -100 - flt τ le
def pfV (τ σ : Int → Int) (le : Int) : Int → Int := if wok τ le ∧ ¬ (er τ σ le).2.2 < 0 then (er τ σ le).1 else σ
def pfq2 (τ σ q : Int → Int) (le : Int) : Int → Int := up (rq τ (up (rq τ q le (fin τ le).1) 15 0) le (lastP τ σ le)) 15 (er τ σ le).2.2
def pfQ (τ σ q : Int → Int) (le : Int) : Int → Int := if wok τ le then (if (er τ σ le).2.2 < 0 then up (up (pfq2 τ σ q le) 8 (er τ σ le).2.1) 9 (er τ σ le).2.2 else rcQ (pfq2 τ σ q le)) else up (up (bx τ q le) 11 1) 10 (flt τ le)
