/-! What acts do to the numbers of a state. -/
theorem rch_cong {σ σ' : Int → Int} (h0 : σ 0 = σ' 0) (hw : ∀ q : Int, 0 ≤ q → q < σ 0 → σ (13 + 6 * q + 4) = σ' (13 + 6 * q + 4)) (p : Int) : rch σ p (σ 0) = rch σ' p (σ' 0) := by
  rw [← h0]
  refine it_cong _ _ _ _ (fun i x h1 h2 => ?_)
  have e : bI (hit σ i p) = bI (hit σ' i p) := by
    unfold bI
    simp only [hit, lst, grt, ← hw i h1 h2, h0]
  show x + bI (hit σ i p) = x + bI (hit σ' i p)
  rw [e]
theorem rnf_cong {σ σ' : Int → Int} (h0 : σ 0 = σ' 0) (hw : ∀ q : Int, 0 ≤ q → q < σ 0 → σ (13 + 6 * q + 4) = σ' (13 + 6 * q + 4)) (p : Int) : rnf σ p (σ 0) = rnf σ' p (σ' 0) := by
  rw [← h0]
  refine it_cong _ _ _ _ (fun i x h1 h2 => ?_)
  have e : bI (rno σ i p) = bI (rno σ' i p) := by
    unfold bI
    simp only [rno, lst, grt, ← hw i h1 h2, h0]
  show x + bI (rno σ i p) = x + bI (rno σ' i p)
  rw [e]
theorem wtr_cong {σ σ' : Int → Int} (h0 : σ 0 = σ' 0) (hw : ∀ q : Int, 0 ≤ q → q < σ 0 → σ (13 + 6 * q + 4) = σ' (13 + 6 * q + 4)) (p d side : Int) : wtr σ p d side = wtr σ' p d side := by
  unfold wtr
  simp only [cov, rch_cong h0 hw, rnf_cong h0 hw]
theorem wby_cong {σ σ' : Int → Int} (h0 : σ 0 = σ' 0) (hw : ∀ q : Int, 0 ≤ q → q < σ 0 → σ (13 + 6 * q + 4) = σ' (13 + 6 * q + 4)) {p : Int} (hp : σ (13 + 6 * p + 1) = σ' (13 + 6 * p + 1)) (d side : Int) : wby σ p d side = wby σ' p d side := by
  unfold wby
  rw [wtr_cong h0 hw, hp]
/-- the wetness of the first i -/
def gw (σ : Int → Int) (d side i : Int) : Int → Int := fun k => if 14 ≤ k ∧ k < 13 + 6 * i ∧ (k - 14) % 6 = 0 then wby σ ((k - 14) / 6) d side else σ k
theorem gw_0 (σ : Int → Int) (d side : Int) : gw σ d side 0 = σ := by
  funext k; unfold gw; rw [if_neg (by omega)]
theorem gw_n (σ : Int → Int) (d side i : Int) {k : Int} (h : k < 14 ∨ 13 + 6 * i ≤ k ∨ (k - 14) % 6 ≠ 0) : gw σ d side i k = σ k := by
  unfold gw; rw [if_neg (by omega)]
theorem gw_y (σ : Int → Int) (d side i : Int) {q : Int} (h0 : 0 ≤ q) (h1 : q < i) : gw σ d side i (13 + 6 * q + 1) = wby σ q d side := by
  unfold gw; rw [if_pos (by omega), show (13 + 6 * q + 1 - 14) / 6 = q by omega]
theorem gw_w (σ : Int → Int) (d side i p : Int) (hp : i ≤ p) : wby (gw σ d side i) p d side = wby σ p d side :=
  wby_cong (gw_n σ d side i (by omega)) (fun q h0 h1 => gw_n σ d side i (by omega)) (gw_n σ d side i (by omega)) d side
theorem gw_s (σ : Int → Int) (d side : Int) {i : Int} (h : 0 ≤ i) : up (gw σ d side i) (13 + 6 * i + 1) (wby (gw σ d side i) i d side) = gw σ d side (i + 1) := by
  rw [gw_w σ d side i i (Int.le_refl i)]
  funext k; unfold up gw
  by_cases e : k = 13 + 6 * i + 1
  · rw [if_pos e, if_pos (by omega), show (k - 14) / 6 = i by omega]
  · rw [if_neg e]
    by_cases e1 : 14 ≤ k ∧ k < 13 + 6 * i ∧ (k - 14) % 6 = 0
    · rw [if_pos e1, if_pos (by omega)]
    · rw [if_neg e1, if_neg (by omega)]
theorem wby_b {σ : Int → Int} (h : Wi σ) {p side d : Int} (hd : 1 ≤ d) (hd2 : d ≤ 99) (hp : 0 ≤ σ (13 + 6 * p + 1)) : 0 ≤ wby σ p d side ∧ wby σ p d side ≤ 999 := by
  have := wtr_b h p side hd hd2
  unfold wby; omega
theorem gw_W {σ : Int → Int} (h : Wi σ) (d side i : Int) : Wi (gw σ d side i) := by
  refine ⟨?_, ?_, fun q h0 h1 => ?_⟩
  · rw [gw_n σ d side i (by omega)]; exact h.1
  · rw [gw_n σ d side i (by omega)]; exact h.2.1
  · rw [gw_n σ d side i (show 0 < 14 ∨ _ by omega)] at h1
    rw [gw_n σ d side i (by omega)]; exact h.2.2 q h0 h1
/-- all that are too wet leave, from the last one: j places are done; rm: how one goes -/
def rmf (rm : (Int → Int) → Int → Int → Int) (n j : Int) (st : Int → Int) : Int → Int := if st (13 + 6 * (n - 1 - j) + 2) < st (13 + 6 * (n - 1 - j) + 1) then rm st (n - 1 - j) else st
def rms (rm : (Int → Int) → Int → Int → Int) (n : Int) (σ : Int → Int) (j : Int) : Int → Int := it (rmf rm n) σ j
theorem rms_0 (rm : (Int → Int) → Int → Int → Int) (n : Int) (σ : Int → Int) : rms rm n σ 0 = σ := rfl
theorem rms_s (rm : (Int → Int) → Int → Int → Int) (n : Int) (σ : Int → Int) {j : Int} (h : 0 ≤ j) : rms rm n σ (j + 1) = rmf rm n j (rms rm n σ j) := it_s _ _ h
def rmok (rm : (Int → Int) → Int → Int → Int) : Prop := ∀ (st : Int → Int) (p : Int), 0 ≤ p → p < st 0 → st 0 ≤ 16 → rm st p 0 = st 0 - 1 ∧ ∀ k : Int, 1 ≤ k → k < 13 + 6 * p → rm st p k = st k
theorem rms_i {rm : (Int → Int) → Int → Int → Int} (hr : rmok rm) {n : Int} {σ : Int → Int} (hn : σ 0 = n) (hn2 : n ≤ 16) : ∀ j : Int, 0 ≤ j → j ≤ n → rms rm n σ j 0 ≤ n ∧ n - j ≤ rms rm n σ j 0 ∧ ∀ k : Int, 1 ≤ k → k < 13 + 6 * (n - j) → rms rm n σ j k = σ k :=
  it_ind (rmf rm n) σ (fun j st => st 0 ≤ n ∧ n - j ≤ st 0 ∧ ∀ k : Int, 1 ≤ k → k < 13 + 6 * (n - j) → st k = σ k) n ⟨by omega, by omega, fun k _ _ => rfl⟩ (fun j st h0 h1 hx => by
    show rmf rm n j st 0 ≤ n ∧ n - (j + 1) ≤ rmf rm n j st 0 ∧ ∀ k : Int, 1 ≤ k → k < 13 + 6 * (n - (j + 1)) → rmf rm n j st k = σ k
    obtain ⟨x1, x2, x3⟩ := hx
    unfold rmf
    split
    · obtain ⟨y1, y2⟩ := hr st (n - 1 - j) (by omega) (by omega) (by omega)
      refine ⟨by omega, by omega, fun k k0 k1 => ?_⟩
      rw [y2 k k0 (by omega)]; exact x3 k k0 (by omega)
    · exact ⟨by omega, by omega, fun k k0 k1 => x3 k k0 (by omega)⟩)
theorem goes_0 (σ : Int → Int) (p : Int) (h : 1 ≤ σ 0) : goes σ p 0 = σ 0 - 1 := gs2_z σ p 6 h
theorem goes_lo (σ : Int → Int) {p k : Int} (h : p < σ 0) (h1 : 1 ≤ k) (h2 : k < 13 + 6 * p) : goes σ p k = σ k := by
  unfold goes gs2 gs1
  rw [if_neg (by omega), if_neg (by omega), if_neg (by omega)]
theorem goes_ok : rmok goes := fun st p h0 h1 h2 => ⟨goes_0 st p (by omega), fun k k0 k1 => goes_lo st h1 k0 k1⟩
def gR (σ : Int → Int) (d side : Int) : Int → Int := rms goes (σ 0) (gw σ d side (σ 0)) (σ 0)
def gur (σ : Int → Int) (d side : Int) : Int := if σ 0 = 0 then -5 else σ 0 - gR σ d side 0
def gus (σ : Int → Int) (d side : Int) : Int → Int := if σ 0 = 0 then σ else up (up (gR σ d side) 3 (gR σ d side 3 + (σ 0 - gR σ d side 0))) 8 (up (gR σ d side) 3 (gR σ d side 3 + (σ 0 - gR σ d side 0)) 8 + 1)
/-- dry: the first i are mi minutes drier -/
def dr (σ : Int → Int) (mi i : Int) : Int → Int := fun k => if 14 ≤ k ∧ k < 13 + 6 * i ∧ (k - 14) % 6 = 0 then max 0 (σ k - mi * σ 10) else σ k
theorem dr_0 (σ : Int → Int) (mi : Int) : dr σ mi 0 = σ := by
  funext k; unfold dr; rw [if_neg (by omega)]
theorem dr_n (σ : Int → Int) (mi i : Int) {k : Int} (h : k < 14 ∨ 13 + 6 * i ≤ k ∨ (k - 14) % 6 ≠ 0) : dr σ mi i k = σ k := by
  unfold dr; rw [if_neg (by omega)]
theorem dr_s (σ : Int → Int) (mi : Int) {i x : Int} (h : 0 ≤ i) (hx : x = max 0 (σ (13 + 6 * i + 1) - mi * σ 10)) : up (dr σ mi i) (13 + 6 * i + 1) x = dr σ mi (i + 1) := by
  funext k; unfold up dr
  by_cases e : k = 13 + 6 * i + 1
  · rw [if_pos e, if_pos (by omega), hx, e]
  · rw [if_neg e]
    by_cases e1 : 14 ≤ k ∧ k < 13 + 6 * i ∧ (k - 14) % 6 = 0
    · rw [if_pos e1, if_pos (by omega)]
    · rw [if_neg e1, if_neg (by omega)]
abbrev isdry (σ : Int → Int) (mi p : Int) : Prop := σ (13 + 6 * p + 1) - mi * σ 10 ≤ 0
def drn (σ : Int → Int) (mi i : Int) : Int := it (fun p a => a + bI (isdry σ mi p)) 0 i
theorem drn_s (σ : Int → Int) (mi : Int) {i : Int} (h : 0 ≤ i) : drn σ mi (i + 1) = drn σ mi i + bI (isdry σ mi i) := it_s _ _ h
theorem drn_b (σ : Int → Int) (mi : Int) {n : Int} (hn : 0 ≤ n) : 0 ≤ drn σ mi n ∧ drn σ mi n ≤ n := sum_b (fun q => isdry σ mi q) n hn
def pau (σ : Int → Int) (mi : Int) : Int := if 99999 < σ 9 + mi then -3 else drn σ mi (σ 0)
def pas (σ : Int → Int) (mi : Int) : Int → Int := if 99999 < σ 9 + mi then σ else up (dr σ mi (σ 0)) 9 (σ 9 + mi)
theorem mul_b {a b A B : Int} (h0 : 0 ≤ a) (h1 : a ≤ A) (h2 : 0 ≤ b) (h3 : b ≤ B) : 0 ≤ a * b ∧ a * b ≤ A * B :=
  ⟨Int.mul_nonneg h0 h2, Int.mul_le_mul h1 h3 h2 (Int.le_trans h0 h1)⟩
/-- the first k go -/
def srs (σ : Int → Int) (k : Int) : Int → Int := fun j => if j = 0 then σ 0 - k else if 13 ≤ j ∧ j < 13 + 6 * (σ 0 - k) then σ (j + 6 * k) else if 13 + 6 * (σ 0 - k) ≤ j ∧ j < 13 + 6 * σ 0 then 0 else σ j
theorem srs_0 (σ : Int → Int) : srs σ 0 = σ := by
  funext j; unfold srs
  by_cases e : j = 0
  · rw [if_pos e, e]; omega
  · rw [if_neg e]
    by_cases e1 : 13 ≤ j ∧ j < 13 + 6 * (σ 0 - 0)
    · rw [if_pos e1]; congr 1; omega
    · rw [if_neg e1, if_neg (by omega)]
theorem srs_z (σ : Int → Int) (k : Int) : srs σ k 0 = σ 0 - k := if_pos rfl
theorem srs_s (σ : Int → Int) {k : Int} (h0 : 0 ≤ k) (h1 : k < σ 0) : goes (srs σ k) 0 = srs σ (k + 1) := by
  funext j; unfold goes gs2 gs1
  rw [srs_z]
  by_cases e0 : j = 0
  · rw [if_neg (by omega), if_pos e0]; unfold srs; rw [if_pos e0]; omega
  · by_cases e1 : 13 ≤ j ∧ j < 13 + 6 * (σ 0 - (k + 1))
    · rw [if_neg (by omega), if_neg e0, if_pos (by omega)]
      unfold srs
      rw [if_neg (by omega), if_pos (by omega), if_neg e0, if_pos e1]
      congr 1; omega
    · by_cases e2 : 13 + 6 * (σ 0 - (k + 1)) ≤ j ∧ j < 13 + 6 * σ 0
      · by_cases e3 : j < 13 + 6 * (σ 0 - k)
        · rw [if_pos (by omega)]; unfold srs; rw [if_neg e0, if_neg e1, if_pos e2]
        · rw [if_neg (by omega), if_neg e0, if_neg (by omega)]; unfold srs; rw [if_neg e0, if_neg (by omega), if_pos (by omega), if_neg e0, if_neg e1, if_pos e2]
      · rw [if_neg (by omega), if_neg e0, if_neg (by omega)]; unfold srs; rw [if_neg e0, if_neg (by omega), if_neg (by omega), if_neg e0, if_neg e1, if_neg e2]
def sv1 (σ : Int → Int) : Int → Int := up σ 4 (σ 4 + srv σ)
def sv2 (σ : Int → Int) : Int → Int := up (sv1 σ) 5 (sv1 σ 5 + cpd σ)
def sv3 (σ : Int → Int) : Int → Int := up (sv2 σ) 6 (sv2 σ 6 + (srv σ * sv2 σ 12 - cpd σ))
def seu (σ : Int → Int) : Int := if σ 0 = 0 then -5 else cpd σ
def sev (σ : Int → Int) : Int → Int := if σ 0 = 0 then σ else srs (sv3 σ) (srv σ)
/-! swaps -/
abbrev pair (σ : Int → Int) (p : Int) : Prop := 0 ≤ p ∧ p + 1 ≤ σ 0 - 1
def mor (σ : Int → Int) (p : Int) : Int := if σ (13 + 6 * (p + 1) + 4) < σ (13 + 6 * p + 4) then σ (13 + 6 * p + 1) - σ (13 + 6 * (p + 1) + 1) else σ (13 + 6 * (p + 1) + 1) - σ (13 + 6 * p + 1)
def why (σ : Int → Int) (p : Int) : Int := if σ (13 + 6 * p + 4) = σ (13 + 6 * (p + 1) + 4) then 1 else if (σ (13 + 6 * p + 4) = 0 ∨ σ (13 + 6 * (p + 1) + 4) = 0) ∧ -50 < mor σ p then 2 else if 0 < mor σ p then 3 else 0
theorem why_b (σ : Int → Int) (p : Int) : 0 ≤ why σ p ∧ why σ p ≤ 3 := by
  unfold why; split
  · omega
  · split
    · omega
    · split <;> omega
def xch (σ : Int → Int) (p k : Int) : Int → Int := up (up σ (13 + 6 * p + k) (σ (13 + 6 * (p + 1) + k))) (13 + 6 * (p + 1) + k) (σ (13 + 6 * p + k))
def sw1 (σ : Int → Int) (p : Int) : Int → Int := up (xch σ p 4) (13 + 6 * p + 5) (xch σ p 4 (13 + 6 * p + 5) + 1)
def sw2 (σ : Int → Int) (p : Int) : Int → Int := up (sw1 σ p) (13 + 6 * (p + 1) + 5) (sw1 σ p (13 + 6 * (p + 1) + 5) + 1)
def sw3 (σ : Int → Int) (p : Int) : Int → Int := up (sw2 σ p) 7 (sw2 σ p 7 + 1)
def swu (σ : Int → Int) (p : Int) : Int := if pair σ p then (if 0 < why σ p then -10 - why σ p else sw3 σ p (13 + 6 * p + 4)) else -1
def swv (σ : Int → Int) (p : Int) : Int → Int := if pair σ p ∧ ¬ 0 < why σ p then sw3 σ p else σ
/-! the history -/
def lk (σ α : Int → Int) (i : Int) : Int → Int := fun j => if 0 ≤ j ∧ j < i then σ j else α j
theorem lk_0 (σ α : Int → Int) : lk σ α 0 = α := by funext j; unfold lk; rw [if_neg (by omega)]
theorem lk_s (σ α : Int → Int) {i : Int} (h : 0 ≤ i) : up (lk σ α i) i (σ i) = lk σ α (i + 1) := by
  funext j; unfold up lk
  by_cases e : j = i
  · rw [if_pos e, if_pos (by omega), e]
  · rw [if_neg e]
    by_cases e1 : 0 ≤ j ∧ j < i
    · rw [if_pos e1, if_pos (by omega)]
    · rw [if_neg e1, if_neg (by omega)]
def sh (β : Int → Int) (i : Int) : Int → Int := fun j => if 0 ≤ j ∧ j < i then β (109 + j) else β j
theorem sh_0 (β : Int → Int) : sh β 0 = β := by funext j; unfold sh; rw [if_neg (by omega)]
theorem sh_s (β : Int → Int) {i : Int} (h : 0 ≤ i) : up (sh β i) i (sh β i (109 + i)) = sh β (i + 1) := by
  funext j; unfold up sh
  by_cases e : j = i
  · rw [if_pos e, if_neg (by omega), if_pos (by omega), e]
  · rw [if_neg e]
    by_cases e1 : 0 ≤ j ∧ j < i
    · rw [if_pos e1, if_pos (by omega)]
    · rw [if_neg e1, if_neg (by omega)]
def ldd (β α : Int → Int) (b i : Int) : Int → Int := fun j => if 109 * b ≤ j ∧ j < 109 * b + i then α (j - 109 * b) else β j
theorem ldd_0 (β α : Int → Int) (b : Int) : ldd β α b 0 = β := by funext j; unfold ldd; rw [if_neg (by omega)]
theorem ldd_s (β α : Int → Int) (b : Int) {i : Int} (h : 0 ≤ i) : up (ldd β α b i) (109 * b + i) (α i) = ldd β α b (i + 1) := by
  funext j; unfold up ldd
  by_cases e : j = 109 * b + i
  · rw [if_pos e, if_pos (by omega), show j - 109 * b = i by omega]
  · rw [if_neg e]
    by_cases e1 : 109 * b ≤ j ∧ j < 109 * b + i
    · rw [if_pos e1, if_pos (by omega)]
    · rw [if_neg e1, if_neg (by omega)]
def rcB (β α : Int → Int) (kn : Int) : Int → Int := if kn = 4 then ldd (sh β 327) α 3 109 else ldd β α kn 109
def rcQ (q : Int → Int) : Int → Int := up q 5 (if q 5 = 4 then 4 else q 5 + 1)
theorem up_up (f : Int → Int) (i a b : Int) : up (up f i a) i b = up f i b := by
  funext j; unfold up; split <;> rfl
