/-! What the document's words are, over the numbers of a state: 0 to 9 the counts, 10 to 12 the settings, 13 + 6 p + k the person at the place p. -/
def lst (σ : Int → Int) (p : Int) : Int := max 0 (p - σ (13 + 6 * p + 4) / 2)
def grt (σ : Int → Int) (p : Int) : Int := min (σ 0 - 1) (p + (σ (13 + 6 * p + 4) - 1) / 2)
/-- the umbrella at q reaches p -/
abbrev hit (σ : Int → Int) (q p : Int) : Prop := 0 < σ (13 + 6 * q + 4) ∧ lst σ q ≤ p ∧ p ≤ grt σ q
def rch (σ : Int → Int) (p i : Int) : Int := it (fun q a => a + bI (hit σ q p)) 0 i
theorem rch_0 (σ : Int → Int) (p : Int) : rch σ p 0 = 0 := rfl
theorem rch_s (σ : Int → Int) (p : Int) {i : Int} (h : 0 ≤ i) : rch σ p (i + 1) = rch σ p i + bI (hit σ i p) := it_s _ _ h
theorem sum_b (P : Int → Prop) [DecidablePred P] (n : Int) (hn : 0 ≤ n) : 0 ≤ it (fun q a => a + bI (P q)) 0 n ∧ it (fun q a => a + bI (P q)) 0 n ≤ n :=
  it_ind (fun q a => a + bI (P q)) 0 (fun i a => 0 ≤ a ∧ a ≤ i) n (by omega) (fun i x h0 h1 hx => by
    have h2 := bI_lo (P i)
    have h3 := bI_hi (P i)
    show 0 ≤ x + bI (P i) ∧ x + bI (P i) ≤ i + 1
    omega) n hn (Int.le_refl n)
theorem rch_b (σ : Int → Int) (p : Int) {n : Int} (hn : 0 ≤ n) : 0 ≤ rch σ p n ∧ rch σ p n ≤ n := sum_b (fun q => hit σ q p) n hn
/-- water of the umbrella at q runs onto p -/
abbrev rno (σ : Int → Int) (q p : Int) : Prop := 0 < σ (13 + 6 * q + 4) ∧ (p = lst σ q - 1 ∨ p = grt σ q + 1)
def rnf (σ : Int → Int) (p i : Int) : Int := it (fun q a => a + bI (rno σ q p)) 0 i
theorem rnf_0 (σ : Int → Int) (p : Int) : rnf σ p 0 = 0 := rfl
theorem rnf_s (σ : Int → Int) (p : Int) {i : Int} (h : 0 ≤ i) : rnf σ p (i + 1) = rnf σ p i + bI (rno σ i p) := it_s _ _ h
theorem rnf_b (σ : Int → Int) (p : Int) {n : Int} (hn : 0 ≤ n) : 0 ≤ rnf σ p n ∧ rnf σ p n ≤ n := sum_b (fun q => rno σ q p) n hn
abbrev cov (σ : Int → Int) (p side : Int) : Prop := 0 < rch σ p (σ 0) ∨ (side = 1 ∧ 0 < rch σ (p - 1) (σ 0)) ∨ (side = 2 ∧ 0 < rch σ (p + 1) (σ 0))
def wtr (σ : Int → Int) (p d side : Int) : Int := (if cov σ p side then 0 else d) + rnf σ p (σ 0) * (d / 2)
def wby (σ : Int → Int) (p d side : Int) : Int := min 999 (σ (13 + 6 * p + 1) + wtr σ p d side)
/-- the widths are in their range -/
def Wi (σ : Int → Int) : Prop := 0 ≤ σ 0 ∧ σ 0 ≤ 16 ∧ ∀ q : Int, 0 ≤ q → q < σ 0 → 0 ≤ σ (13 + 6 * q + 4) ∧ σ (13 + 6 * q + 4) ≤ 5
/-- the wetness too -/
def We (σ : Int → Int) : Prop := ∀ q : Int, 0 ≤ q → q < σ 0 → 0 ≤ σ (13 + 6 * q + 1) ∧ σ (13 + 6 * q + 1) ≤ 999
theorem run_b {x d : Int} (h0 : 0 ≤ x) (h1 : x ≤ 16) (hd : 1 ≤ d) (hd2 : d ≤ 99) : 0 ≤ x * (d / 2) ∧ x * (d / 2) ≤ 784 := by
  have h2 : 0 ≤ d / 2 := by omega
  have h3 : d / 2 ≤ 49 := by omega
  refine ⟨Int.mul_nonneg h0 h2, ?_⟩
  have h4 : x * (d / 2) ≤ 16 * (d / 2) := Int.mul_le_mul_of_nonneg_right h1 h2
  omega
theorem wtr_b {σ : Int → Int} (h : Wi σ) (p side : Int) {d : Int} (hd : 1 ≤ d) (hd2 : d ≤ 99) : 0 ≤ wtr σ p d side ∧ wtr σ p d side ≤ 883 := by
  have h1 := rnf_b σ p h.1
  have h2 := run_b h1.1 (Int.le_trans h1.2 h.2.1) hd hd2
  unfold wtr
  split <;> omega
/-! somebody goes -/
def gs1 (σ : Int → Int) (p i : Int) : Int → Int := fun j => if j = 0 then σ 0 - 1 else if 13 + 6 * p ≤ j ∧ j < i then σ (j + 6) else σ j
def gs2 (σ : Int → Int) (p i : Int) : Int → Int := fun j => if 13 + 6 * (σ 0 - 1) ≤ j ∧ j < 13 + 6 * (σ 0 - 1) + i then 0 else gs1 σ p (13 + 6 * (σ 0 - 1)) j
def goes (σ : Int → Int) (p : Int) : Int → Int := gs2 σ p 6
theorem gs1_0 (σ : Int → Int) {p : Int} (hp : 0 ≤ p) : up σ 0 (σ 0 - 1) = gs1 σ p (13 + 6 * p + 0) := by
  funext j; unfold up gs1
  split
  · rfl
  · rw [if_neg (by omega)]
theorem gs1_z (σ : Int → Int) (p i : Int) : gs1 σ p i 0 = σ 0 - 1 := if_pos rfl
theorem gs1_s (σ : Int → Int) {p i : Int} (hp : 0 ≤ p) (hi : 13 + 6 * p ≤ i) : up (gs1 σ p i) i (gs1 σ p i (i + 6)) = gs1 σ p (i + 1) := by
  funext j; unfold up gs1
  by_cases e : j = i
  · rw [if_pos e, if_neg (by omega), if_neg (by omega), if_neg (by omega), if_pos (by omega), e]
  · rw [if_neg e]
    by_cases e0 : j = 0
    · rw [if_pos e0, if_pos e0]
    · rw [if_neg e0, if_neg e0]
      by_cases e1 : 13 + 6 * p ≤ j ∧ j < i
      · rw [if_pos e1, if_pos (by omega)]
      · rw [if_neg e1, if_neg (by omega)]
theorem gs2_0 (σ : Int → Int) (p : Int) : gs1 σ p (13 + 6 * (σ 0 - 1)) = gs2 σ p 0 := by
  funext j; unfold gs2; rw [if_neg (by omega)]
theorem gs2_z (σ : Int → Int) (p i : Int) (h : 1 ≤ σ 0) : gs2 σ p i 0 = σ 0 - 1 := by
  unfold gs2; rw [if_neg (by omega), gs1_z]
theorem gs2_s (σ : Int → Int) (p : Int) {i : Int} (h : 1 ≤ σ 0) (hi : 0 ≤ i) : up (gs2 σ p i) (13 + 6 * gs2 σ p i 0 + i) 0 = gs2 σ p (i + 1) := by
  rw [gs2_z σ p i h]
  funext j; unfold up gs2
  by_cases e : j = 13 + 6 * (σ 0 - 1) + i
  · rw [if_pos e, if_pos (by omega)]
  · rw [if_neg e]
    by_cases e1 : 13 + 6 * (σ 0 - 1) ≤ j ∧ j < 13 + 6 * (σ 0 - 1) + i
    · rw [if_pos e1, if_pos (by omega)]
    · rw [if_neg e1, if_neg (by omega)]
/-! the counter -/
def srv (σ : Int → Int) : Int := min (σ 0) (σ 11)
def drf (σ : Int → Int) (p f : Int) : Int := if σ (13 + 6 * p + 1) < σ (13 + 6 * f + 1) then p else f
def dri (σ : Int → Int) (i : Int) : Int := it (drf σ) 0 i
theorem dri_1 (σ : Int → Int) : dri σ 1 = 0 := by
  show drf σ 0 0 = 0
  unfold drf; rw [if_neg (by omega)]
theorem dri_s (σ : Int → Int) {i : Int} (h : 0 ≤ i) : dri σ (i + 1) = drf σ i (dri σ i) := it_s _ _ h
theorem dri_b (σ : Int → Int) {n : Int} (hn : 1 ≤ n) : 0 ≤ dri σ n ∧ dri σ n < n := by
  have := it_ind (drf σ) 0 (fun i a => 0 ≤ a ∧ (a < i ∨ i = 0 ∧ a = 0)) n ⟨by omega, Or.inr ⟨rfl, rfl⟩⟩ (fun i x h0 h1 hx => by
    show 0 ≤ drf σ i x ∧ (drf σ i x < i + 1 ∨ i + 1 = 0 ∧ drf σ i x = 0)
    unfold drf
    split <;> omega) n (by omega) (Int.le_refl n)
  have h2 : 0 ≤ dri σ n ∧ (dri σ n < n ∨ n = 0 ∧ dri σ n = 0) := this
  omega
def cpd (σ : Int → Int) : Int := min (σ (13 + 6 * dri σ (srv σ) + 3)) (srv σ * σ 12)
theorem far_b {x d : Int} (h0 : 0 ≤ x) (h1 : x ≤ 16) (hd : 0 ≤ d) (hd2 : d ≤ 99) : 0 ≤ x * d ∧ x * d ≤ 1584 := by
  refine ⟨Int.mul_nonneg h0 hd, ?_⟩
  have h4 : x * d ≤ 16 * d := Int.mul_le_mul_of_nonneg_right h1 hd
  omega
theorem srv_b {σ : Int → Int} (h : 1 ≤ σ 0 ∧ σ 0 ≤ 16) (h2 : 1 ≤ σ 11 ∧ σ 11 ≤ 4) : 1 ≤ srv σ ∧ srv σ ≤ 4 ∧ srv σ ≤ σ 0 := by unfold srv; omega
