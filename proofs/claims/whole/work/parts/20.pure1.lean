/-! What the document's words are, over the numbers of a state: 0 to 9 the counts, 10 to 12 the settings, 13 + 6 p + k the person at the place p. -/
def lst (σ : Int → Int) (p : Int) : Int := max 0 (p - σ (13 + 6 * p + 4) / 2)
def grt (σ : Int → Int) (p : Int) : Int := min (σ 0 - 1) (p + (σ (13 + 6 * p + 4) - 1) / 2)
/-- the umbrella at q reaches p -/
abbrev hit (σ : Int → Int) (q p : Int) : Prop := 0 < σ (13 + 6 * q + 4) ∧ lst σ q ≤ p ∧ p ≤ grt σ q
def rch (σ : Int → Int) (p i : Int) : Int := it (fun q a => a + bI (hit σ q p)) 0 i
theorem rch_0 (σ : Int → Int) (p : Int) : rch σ p 0 = 0 := rfl
theorem rch_s (σ : Int → Int) (p : Int) {i : Int} (h : 0 ≤ i) : rch σ p (i + 1) = rch σ p i + bI (hit σ i p) := it_s _ _ h
theorem sum_b (P : Int → Prop) [DecidablePred P] (n : Int) (hn : 0 ≤ n) : 0 ≤ it (fun q a => a + bI (P q)) 0 n ∧ it (fun q a => a + bI (P q)) 0 n ≤ n :=
  it_ind (fun q a => a + bI (P q)) 0 (fun i a => 0 ≤ a ∧ a ≤ i) n (by omega) (fun i x h0 h1 hx => by
    have h2 := bI_lo (P i)
    have h3 := bI_hi (P i)
    show 0 ≤ x + bI (P i) ∧ x + bI (P i) ≤ i + 1
    omega) n hn (Int.le_refl n)
theorem rch_b (σ : Int → Int) (p : Int) {n : Int} (hn : 0 ≤ n) : 0 ≤ rch σ p n ∧ rch σ p n ≤ n := sum_b (fun q => hit σ q p) n hn
/-- water of the umbrella at q runs onto p -/
abbrev rno (σ : Int → Int) (q p : Int) : Prop := 0 < σ (13 + 6 * q + 4) ∧ (p = lst σ q - 1 ∨ p = grt σ q + 1)
def rnf (σ : Int → Int) (p i : Int) : Int := it (fun q a => a + bI (rno σ q p)) 0 i
theorem rnf_0 (σ : Int → Int) (p : Int) : rnf σ p 0 = 0 := rfl
theorem rnf_s (σ : Int → Int) (p : Int) {i : Int} (h : 0 ≤ i) : rnf σ p (i + 1) = rnf σ p i + bI (rno σ i p) := it_s _ _ h
theorem rnf_b (σ : Int → Int) (p : Int) {n : Int} (hn : 0 ≤ n) : 0 ≤ rnf σ p n ∧ rnf σ p n ≤ n := sum_b (fun q => rno σ q p) n hn
abbrev cov (σ : Int → Int) (p side : Int) : Prop := 0 < rch σ p (σ 0) ∨ (side = 1 ∧ 0 < rch σ (p - 1) (σ 0)) ∨ (side = 2 ∧ 0 < rch σ (p + 1) (σ 0))
def wtr (σ : Int → Int) (p d side : Int) : Int := (if cov σ p side then 0 else d) + rnf σ p (σ 0) * (d / 2)
def wby (σ : Int → Int) (p d side : Int) : Int := min 999 (σ (13 + 6 * p + 1) + wtr σ p d side)
/-- the widths are in their range -/
def Wi (σ : Int → Int) : Prop := 0 ≤ σ 0 ∧ σ 0 ≤ 16 ∧ ∀ q : Int, 0 ≤ q → q < σ 0 → 0 ≤ σ (13 + 6 * q + 4) ∧ σ (13 + 6 * q + 4) ≤ 5
/-- the wetness too -/
def We (σ : Int → Int) : Prop := ∀ q : Int, 0 ≤ q → q < σ 0 → 0 ≤ σ (13 + 6 * q + 1) ∧ σ (13 + 6 * q + 1) ≤ 999
theorem run_b {x d : Int} (h0 : 0 ≤ x) (h1 : x ≤ 16) (hd : 1 ≤ d) (hd2 : d ≤ 99) : 0 ≤ x * (d / 2) ∧ x * (d / 2) ≤ 784 := by
  have h2 : 0 ≤ d / 2 := by omega
  have h3 : d / 2 ≤ 49 := by omega
  refine ⟨Int.mul_nonneg h0 h2, ?_⟩
  have h4 : x * (d / 2) ≤ 16 * (d / 2) := Int.mul_le_mul_of_nonneg_right h1 h2
  omega
theorem wtr_b {σ : Int → Int} (h : Wi σ) (p side : Int) {d : Int} (hd : 1 ≤ d) (hd2 : d ≤ 99) : 0 ≤ wtr σ p d side ∧ wtr σ p d side ≤ 883 := by
  have h1 := rnf_b σ p h.1
  have h2 := run_b h1.1 (Int.le_trans h1.2 h.2.1) hd hd2
  unfold wtr
  split <;> omega
