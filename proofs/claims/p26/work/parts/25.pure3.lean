/-! The calls, over the numbers of a state. -/
def Iv (σ : Int → Int) : Prop := Wi σ ∧ We σ ∧ (∀ x : Int, 0 ≤ x → x < σ 0 → 10 ≤ σ (13 + 6 * x + 2) ∧ σ (13 + 6 * x + 2) ≤ 999) ∧ (∀ x : Int, 0 ≤ x → x < σ 0 → 0 ≤ σ (13 + 6 * x + 3) ∧ σ (13 + 6 * x + 3) ≤ 9999) ∧ (∀ x : Int, 0 ≤ x → x < σ 0 → 0 ≤ σ (13 + 6 * x + 0) ∧ σ (13 + 6 * x + 0) < 200) ∧ (∀ x : Int, 0 ≤ x → x < σ 0 → σ (13 + 6 * x + 1) ≤ σ (13 + 6 * x + 2)) ∧ (0 ≤ σ 1 ∧ σ 1 ≤ 200) ∧ (0 ≤ σ 9 ∧ σ 9 ≤ 99999) ∧ (0 ≤ σ 10 ∧ σ 10 ≤ 50) ∧ (1 ≤ σ 11 ∧ σ 11 ≤ 4) ∧ (0 ≤ σ 12 ∧ σ 12 ≤ 99)
def com (σ : Int → Int) (pa co wi : Int) : Int → Int :=
  let a1 := up σ 0 (σ 0 + 1)
  let a2 := up a1 (13 + 6 * σ 0 + 0) (a1 1)
  let a3 := up a2 (13 + 6 * σ 0 + 1) 0
  let a4 := up a3 (13 + 6 * σ 0 + 2) pa
  let a5 := up a4 (13 + 6 * σ 0 + 3) co
  let a6 := up a5 (13 + 6 * σ 0 + 4) wi
  let a7 := up a6 (13 + 6 * σ 0 + 5) 0
  up a7 1 (a7 1 + 1)
abbrev comok (pa co wi : Int) : Prop := (10 ≤ pa ∧ pa ≤ 999) ∧ (0 ≤ co ∧ co ≤ 9999) ∧ (0 ≤ wi ∧ wi ≤ 5)
def comu (σ : Int → Int) (pa co wi : Int) : Int := if comok pa co wi then (if σ 0 = 16 ∨ σ 1 = 200 then -3 else σ 0) else -2
def comv (σ : Int → Int) (pa co wi : Int) : Int → Int := if 0 ≤ comu σ pa co wi then com σ pa co wi else σ
abbrev isp (σ : Int → Int) (p : Int) : Prop := 0 ≤ p ∧ p ≤ σ 0 - 1
def levu (σ : Int → Int) (p : Int) : Int := if isp σ p then σ (13 + 6 * p + 1) else -1
def levv (σ : Int → Int) (p : Int) : Int → Int := if isp σ p then up (goes σ p) 2 (goes σ p 2 + 1) else σ
def xls (σ : Int → Int) (p i : Int) : Int → Int := it (fun k st => xch st p k) σ i
theorem xls_0 (σ : Int → Int) (p : Int) : xls σ p 0 = σ := rfl
theorem xls_s (σ : Int → Int) (p : Int) {i : Int} (h : 0 ≤ i) : xls σ p (i + 1) = xch (xls σ p i) p i := it_s _ _ h
theorem xch_lo (σ : Int → Int) {p k j : Int} (hp : 0 ≤ p) (hk : 0 ≤ k) (hj : j < 13) : xch σ p k j = σ j := by
  unfold xch; rw [up_n _ _ (by omega), up_n _ _ (by omega)]
def ltu (σ : Int → Int) (p : Int) : Int := if pair σ p then σ (13 + 6 * (p + 1) + 0) else -1
def ltv (σ : Int → Int) (p : Int) : Int → Int := if pair σ p then xls σ p 6 else σ
theorem xls_i (σ : Int → Int) {p : Int} (hp : 0 ≤ p) : ∀ i : Int, 0 ≤ i → i ≤ 6 → (∀ j : Int, j < 13 → xls σ p i j = σ j) ∧ (∀ k : Int, 0 ≤ k → k < i → xls σ p i (13 + 6 * p + k) = σ (13 + 6 * (p + 1) + k) ∧ xls σ p i (13 + 6 * (p + 1) + k) = σ (13 + 6 * p + k)) ∧ (∀ k : Int, i ≤ k → k < 6 → xls σ p i (13 + 6 * p + k) = σ (13 + 6 * p + k) ∧ xls σ p i (13 + 6 * (p + 1) + k) = σ (13 + 6 * (p + 1) + k)) ∧ (∀ j : Int, 13 ≤ j → (j < 13 + 6 * p ∨ 13 + 6 * (p + 2) ≤ j) → xls σ p i j = σ j) :=
  it_ind (fun k st => xch st p k) σ (fun i st => (∀ j : Int, j < 13 → st j = σ j) ∧ (∀ k : Int, 0 ≤ k → k < i → st (13 + 6 * p + k) = σ (13 + 6 * (p + 1) + k) ∧ st (13 + 6 * (p + 1) + k) = σ (13 + 6 * p + k)) ∧ (∀ k : Int, i ≤ k → k < 6 → st (13 + 6 * p + k) = σ (13 + 6 * p + k) ∧ st (13 + 6 * (p + 1) + k) = σ (13 + 6 * (p + 1) + k)) ∧ (∀ j : Int, 13 ≤ j → (j < 13 + 6 * p ∨ 13 + 6 * (p + 2) ≤ j) → st j = σ j)) 6 ⟨fun j _ => rfl, fun k h0 h1 => absurd h1 (by omega), fun k _ _ => ⟨rfl, rfl⟩, fun j _ _ => rfl⟩ (fun i st h0 h1 hx => by
    obtain ⟨x1, x2, x3, x4⟩ := hx
    refine ⟨fun j hj => ?_, fun k k0 k1 => ?_, fun k k0 k1 => ?_, fun j hj h2 => ?_⟩
    · show xch st p i j = σ j
      rw [xch_lo st hp h0 hj]; exact x1 j hj
    · show xch st p i _ = _ ∧ xch st p i _ = _
      obtain ⟨y1, y2⟩ := x3 i (Int.le_refl i) h1
      unfold xch
      by_cases e : k = i
      · subst e
        rw [up_n _ _ (by omega), up_s, up_s, y1, y2]
        exact ⟨rfl, rfl⟩
      · rw [up_n _ _ (by omega), up_n _ _ (by omega), up_n _ _ (by omega), up_n _ _ (by omega)]
        exact x2 k k0 (by omega)
    · show xch st p i _ = _ ∧ xch st p i _ = _
      unfold xch
      rw [up_n _ _ (by omega), up_n _ _ (by omega), up_n _ _ (by omega), up_n _ _ (by omega)]
      exact x3 k (by omega) k1
    · show xch st p i j = σ j
      unfold xch
      rw [up_n _ _ (by omega), up_n _ _ (by omega)]
      exact x4 j hj h2)
def slo (wh : Int) : Int := if wh = 1 then 1 else 0
def shi (wh : Int) : Int := if wh = 0 then 50 else if wh = 1 then 4 else 99
def setu (σ : Int → Int) (wh v : Int) : Int := if 0 ≤ wh ∧ wh ≤ 2 then (if slo wh ≤ v ∧ v ≤ shi wh then (if σ (10 + wh) = v then -5 else σ (10 + wh)) else -2) else -1
def setv (σ : Int → Int) (wh v : Int) : Int → Int := if 0 ≤ setu σ wh v then up σ (10 + wh) v else σ
abbrev gst (d side : Int) : Prop := (1 ≤ d ∧ d ≤ 99) ∧ (0 ≤ side ∧ side ≤ 2)
def guu (σ : Int → Int) (d side : Int) : Int := if gst d side then gur σ d side else -2
def guv (σ : Int → Int) (d side : Int) : Int → Int := if gst d side then gus σ d side else σ
def pu2 (σ : Int → Int) (mi : Int) : Int := if 1 ≤ mi ∧ mi ≤ 99 then pau σ mi else -2
def pv2 (σ : Int → Int) (mi : Int) : Int → Int := if 1 ≤ mi ∧ mi ≤ 99 then pas σ mi else σ
/-- the state that the history holds at b -/
def hst (β : Int → Int) (b : Int) : Int → Int := fun k => β (109 * b + k)
/-! what is told -/
def psu (σ : Int → Int) (p wh : Int) : Int := if isp σ p then (if wh = 5 then (if σ (13 + 6 * p + 4) = 0 then -5 else lst σ p) else if wh = 6 then (if σ (13 + 6 * p + 4) = 0 then -5 else grt σ p) else if wh = 7 then rch σ p (σ 0) else if wh = 8 then σ (13 + 6 * p + 5) else if 0 ≤ wh ∧ wh ≤ 4 then σ (13 + 6 * p + wh) else -2) else -1
/-- the first place from i on with the number x -/
def plc (σ : Int → Int) (x : Int) : Int := it (fun j r => if σ (13 + 6 * (σ 0 - 1 - j) + 0) = x then σ 0 - 1 - j else r) (-5) (σ 0)
theorem plc_at {σ : Int → Int} {x i : Int} (h0 : 0 ≤ i) (h1 : i < σ 0) (he : σ (13 + 6 * i + 0) = x) (hn : ∀ k : Int, 0 ≤ k → k < i → σ (13 + 6 * k + 0) ≠ x) : plc σ x = i := by
  have := it_ind (fun j r => if σ (13 + 6 * (σ 0 - 1 - j) + 0) = x then σ 0 - 1 - j else r) (-5) (fun j r => σ 0 - 1 - i < j → r = i) (σ 0) (fun h => absurd h (by omega)) (fun j r j0 j1 hr hj => by
    show (if σ (13 + 6 * (σ 0 - 1 - j) + 0) = x then σ 0 - 1 - j else r) = i
    by_cases e : j = σ 0 - 1 - i
    · rw [show σ 0 - 1 - j = i by omega, if_pos he]
    · rw [if_neg (hn _ (by omega) (by omega))]; exact hr (by omega)) (σ 0) (by omega) (Int.le_refl _)
  exact this (by omega)
theorem plc_no {σ : Int → Int} {x : Int} (h0 : 0 ≤ σ 0) (hn : ∀ k : Int, 0 ≤ k → k < σ 0 → σ (13 + 6 * k + 0) ≠ x) : plc σ x = -5 := by
  have := it_ind (fun j r => if σ (13 + 6 * (σ 0 - 1 - j) + 0) = x then σ 0 - 1 - j else r) (-5) (fun j r => r = -5) (σ 0) rfl (fun j r j0 j1 hr => by
    show (if σ (13 + 6 * (σ 0 - 1 - j) + 0) = x then σ 0 - 1 - j else r) = -5
    rw [if_neg (hn _ (by omega) (by omega))]; exact hr) (σ 0) h0 (Int.le_refl _)
  exact this
def plu (σ : Int → Int) (x : Int) : Int := if 0 ≤ x ∧ x ≤ 199 then plc σ x else -2
def tol (σ : Int → Int) (p d side wh : Int) : Int := if wh = 0 then bI (cov σ p side) else if wh = 1 then rnf σ p (σ 0) else if wh = 2 then wby σ p d side else bI (σ (13 + 6 * p + 2) < wby σ p d side)
def ifu (σ : Int → Int) (p d side wh : Int) : Int := if isp σ p then (if gst d side ∧ (0 ≤ wh ∧ wh ≤ 3) then tol σ p d side wh else -2) else -1
def reu (σ : Int → Int) (p : Int) : Int := if pair σ p then why σ p else -1
def awf (σ : Int → Int) (d side i : Int) : Int := it (fun p a => a + wby σ p d side) 0 i
def awb (σ : Int → Int) (d side : Int) : Int := awf σ d side (σ 0)
theorem awf_s (σ : Int → Int) (d side : Int) {i : Int} (h : 0 ≤ i) : awf σ d side (i + 1) = awf σ d side i + wby σ i d side := it_s _ _ h
theorem awf_b {σ : Int → Int} (hW : Wi σ) (hE : We σ) {d side : Int} (hd : 1 ≤ d) (hd2 : d ≤ 99) : ∀ i : Int, 0 ≤ i → i ≤ σ 0 → 0 ≤ awf σ d side i ∧ awf σ d side i ≤ 999 * i :=
  it_ind (fun p a => a + wby σ p d side) 0 (fun i a => 0 ≤ a ∧ a ≤ 999 * i) (σ 0) (by omega) (fun i a h0 h1 hx => by
    have := wby_b hW (side := side) hd hd2 (hE i h0 h1).1
    show 0 ≤ a + wby σ i d side ∧ a + wby σ i d side ≤ 999 * (i + 1)
    omega)
theorem awb_b {σ : Int → Int} (hW : Wi σ) (hE : We σ) {d side : Int} (hd : 1 ≤ d) (hd2 : d ≤ 99) : 0 ≤ awb σ d side ∧ awb σ d side ≤ 15984 := by
  have h1 := awf_b hW hE (side := side) hd hd2 (σ 0) hW.1 (Int.le_refl _)
  have h2 := hW.2.1
  unfold awb; omega
theorem xch_xch (σ : Int → Int) (p k : Int) : xch (xch σ p k) p k = σ := by
  funext j
  unfold xch up
  by_cases e1 : j = 13 + 6 * (p + 1) + k
  · rw [if_pos e1, if_neg (by omega), if_pos rfl, e1]
  · rw [if_neg e1]
    by_cases e2 : j = 13 + 6 * p + k
    · rw [if_pos e2, if_pos rfl, e2]
    · rw [if_neg e2, if_neg e1, if_neg e2]
theorem xch_W {σ : Int → Int} (h : Wi σ) {p : Int} (h0 : 0 ≤ p) (h1 : p + 1 < σ 0) : Wi (xch σ p 4) := by
  have e0 := xch_lo σ (p := p) (k := 4) (j := 0) h0 (by omega) (by omega)
  refine ⟨by rw [e0]; exact h.1, by rw [e0]; exact h.2.1, fun q q0 q1 => ?_⟩
  rw [e0] at q1
  have h5 := h.2.2 q q0 q1
  have h6 := h.2.2 p h0 (by omega)
  have h7 := h.2.2 (p + 1) (by omega) h1
  unfold xch up
  split
  · exact h6
  · split
    · exact h7
    · exact h5
theorem xch_E {σ : Int → Int} (h : We σ) {p : Int} (h0 : 0 ≤ p) : We (xch σ p 4) := by
  have e0 := xch_lo σ (p := p) (k := 4) (j := 0) h0 (by omega) (by omega)
  intro q q0 q1
  rw [e0] at q1
  have h5 := h q q0 q1
  unfold xch
  rw [up_n _ _ (by omega), up_n _ _ (by omega)]
  exact h5
def bsf (σ : Int → Int) (d side : Int) (p : Int) (x : Int × Int) : Int × Int := if why σ p = 0 then (if awb (xch σ p 4) d side < x.2 then (p, awb (xch σ p 4) d side) else x) else x
def bsl (σ : Int → Int) (d side i : Int) : Int × Int := it (bsf σ d side) (-5, awb σ d side) i
theorem bsl_s (σ : Int → Int) (d side : Int) {i : Int} (h : 0 ≤ i) : bsl σ d side (i + 1) = bsf σ d side i (bsl σ d side i) := it_s _ _ h
def bsu (σ : Int → Int) (d side : Int) : Int := if gst d side then (bsl σ d side (σ 0 - 1)).1 else -2
def pyu (σ : Int → Int) (wh : Int) : Int := if 0 ≤ wh ∧ wh ≤ 1 then (if σ 0 = 0 then -5 else if wh = 0 then dri σ (srv σ) else cpd σ) else -2
def beu (σ : Int → Int) (p d : Int) : Int := if isp σ p then (if 1 ≤ d ∧ d ≤ 99 then (if wtr σ p d 0 = 0 ∨ σ (13 + 6 * p + 2) = 999 then -5 else (σ (13 + 6 * p + 2) - σ (13 + 6 * p + 1)) / wtr σ p d 0) else -2) else -1
def swf (σ : Int → Int) (i : Int) : Int := it (fun p a => a + σ (13 + 6 * p + 1)) 0 i
theorem swf_s (σ : Int → Int) {i : Int} (h : 0 ≤ i) : swf σ (i + 1) = swf σ i + σ (13 + 6 * i + 1) := it_s _ _ h
/-- the wettest of the first i -/
def wtt (σ : Int → Int) (i : Int) : Int := it (fun p f => if σ (13 + 6 * f + 1) < σ (13 + 6 * p + 1) then p else f) 0 i
theorem wtt_1 (σ : Int → Int) : wtt σ 1 = 0 := by
  show (if σ (13 + 6 * 0 + 1) < σ (13 + 6 * ((0 : Nat) : Int) + 1) then ((0 : Nat) : Int) else 0) = 0
  split <;> rfl
theorem wtt_s (σ : Int → Int) {i : Int} (h : 0 ≤ i) : wtt σ (i + 1) = if σ (13 + 6 * wtt σ i + 1) < σ (13 + 6 * i + 1) then i else wtt σ i := it_s _ _ h
def wtu (σ : Int → Int) : Int := if σ 0 = 0 then -5 else wtt σ (σ 0)
def unf (σ : Int → Int) (i : Int) : Int := it (fun p a => a + bI (rch σ p (σ 0) = 0)) 0 i
theorem unf_s (σ : Int → Int) {i : Int} (h : 0 ≤ i) : unf σ (i + 1) = unf σ i + bI (rch σ i (σ 0) = 0) := it_s _ _ h
def cnu (σ : Int → Int) (kn le wh : Int) : Int := if 0 ≤ wh ∧ wh ≤ 9 then σ wh else if wh = 10 then swf σ (σ 0) else if wh = 11 then wtu σ else if wh = 12 then unf σ (σ 0) else if 13 ≤ wh ∧ wh ≤ 15 then σ (wh - 3) else if wh = 16 then kn else if wh = 17 then le else -2
