/-! Two States' numbers, equal as far as the queue reaches. -/
def Ag (σ τ : Int → Int) : Prop := (0 ≤ τ 0 ∧ τ 0 ≤ 16) ∧ ∀ k : Int, 0 ≤ k → k < 13 + 6 * τ 0 → σ k = τ k
theorem Ag.c {σ τ : Int → Int} (h : Ag σ τ) {k : Int} (h0 : 0 ≤ k) (h1 : k < 13) : σ k = τ k := h.2 k h0 (by have := h.1; omega)
theorem Ag.n {σ τ : Int → Int} (h : Ag σ τ) : σ 0 = τ 0 := h.c (Int.le_refl 0) (by omega)
theorem Ag.p {σ τ : Int → Int} (h : Ag σ τ) {x k : Int} (x0 : 0 ≤ x) (x1 : x < τ 0) (k0 : 0 ≤ k) (k1 : k ≤ 5) : σ (13 + 6 * x + k) = τ (13 + 6 * x + k) := h.2 _ (by omega) (by omega)
theorem ag_rf {τ : Int → Int} (h : Iv τ) : Ag τ τ := ⟨(Iv_iff.mp h).1, fun _ _ _ => rfl⟩
theorem ag_I {σ τ : Int → Int} (h : Ag σ τ) (hI : Iv τ) : Iv σ := by
  obtain ⟨b, f, g⟩ := Iv_iff.mp hI
  refine Iv_iff.mpr ⟨by rw [h.n]; exact b, fun x x0 x1 => ?_, Cv_of g (h.c (by omega) (by omega)) (h.c (by omega) (by omega)) (h.c (by omega) (by omega)) (h.c (by omega) (by omega)) (h.c (by omega) (by omega))⟩
  rw [h.n] at x1
  refine ⟨Pv_of (f x x0 x1).1 (fun k k0 k1 => h.p x0 x1 k0 (by omega)), ?_⟩
  have := (f x x0 x1).2
  unfold Uv at this ⊢
  rw [h.p x0 x1 (by omega) (by omega), h.p x0 x1 (by omega) (by omega)]; exact this
theorem ag_up {σ τ : Int → Int} (h : Ag σ τ) {i v w : Int} (hi : i ≠ 0) (hv : v = w) : Ag (up σ i v) (up τ i w) := by
  have e : up τ i w 0 = τ 0 := up_n _ _ (by omega)
  refine ⟨by rw [e]; exact h.1, fun k k0 k1 => ?_⟩
  rw [e] at k1
  unfold up
  split
  · exact hv
  · exact h.2 k k0 k1
theorem ag_rch {σ τ : Int → Int} (h : Ag σ τ) (p : Int) : rch σ p (σ 0) = rch τ p (τ 0) := rch_cong h.n (fun q q0 q1 => h.p q0 (by rw [← h.n]; exact q1) (by omega) (by omega)) p
theorem ag_rnf {σ τ : Int → Int} (h : Ag σ τ) (p : Int) : rnf σ p (σ 0) = rnf τ p (τ 0) := rnf_cong h.n (fun q q0 q1 => h.p q0 (by rw [← h.n]; exact q1) (by omega) (by omega)) p
theorem ag_wtr {σ τ : Int → Int} (h : Ag σ τ) (p d s : Int) : wtr σ p d s = wtr τ p d s := wtr_cong h.n (fun q q0 q1 => h.p q0 (by rw [← h.n]; exact q1) (by omega) (by omega)) p d s
theorem ag_wby {σ τ : Int → Int} (h : Ag σ τ) {p : Int} (p0 : 0 ≤ p) (p1 : p < τ 0) (d s : Int) : wby σ p d s = wby τ p d s := wby_cong h.n (fun q q0 q1 => h.p q0 (by rw [← h.n]; exact q1) (by omega) (by omega)) (h.p p0 p1 (by omega) (by omega)) d s
theorem ag_cov {σ τ : Int → Int} (h : Ag σ τ) (p s : Int) : cov σ p s ↔ cov τ p s := by
  show (_ ∨ _ ∨ _) ↔ (_ ∨ _ ∨ _)
  rw [ag_rch h p, ag_rch h (p - 1), ag_rch h (p + 1)]
theorem ag_lst {σ τ : Int → Int} (h : Ag σ τ) {p : Int} (p0 : 0 ≤ p) (p1 : p < τ 0) : lst σ p = lst τ p := by unfold lst; rw [h.p p0 p1 (by omega) (by omega)]
theorem ag_grt {σ τ : Int → Int} (h : Ag σ τ) {p : Int} (p0 : 0 ≤ p) (p1 : p < τ 0) : grt σ p = grt τ p := by unfold grt; rw [h.p p0 p1 (by omega) (by omega), h.n]
theorem ag_psu {σ τ : Int → Int} (h : Ag σ τ) (p wh : Int) : psu σ p wh = psu τ p wh := by
  unfold psu
  by_cases c : isp τ p
  · have c' : isp σ p := by show 0 ≤ p ∧ p ≤ σ 0 - 1; rw [h.n]; exact c
    rw [if_pos c', if_pos c, h.p (k := 4) c.1 (by omega) (by omega) (by omega), h.p (k := 5) c.1 (by omega) (by omega) (by omega), ag_lst h c.1 (by omega), ag_grt h c.1 (by omega), ag_rch h p]
    by_cases c2 : 0 ≤ wh ∧ wh ≤ 4
    · rw [h.p (k := wh) c.1 (by omega) (by omega) (by omega)]
    · rw [if_neg c2, if_neg c2]
  · have c' : ¬ isp σ p := by show ¬ (0 ≤ p ∧ p ≤ σ 0 - 1); rw [h.n]; exact c
    rw [if_neg c', if_neg c]
theorem ag_plu {σ τ : Int → Int} (h : Ag σ τ) (x : Int) : plu σ x = plu τ x := by
  unfold plu plc
  rw [h.n, it_cong _ (fun j r => if τ (13 + 6 * (τ 0 - 1 - j) + 0) = x then τ 0 - 1 - j else r) _ _ (fun j r j0 j1 => by show (if _ then _ else _) = (if _ then _ else _); rw [h.p (x := τ 0 - 1 - j) (by omega) (by omega) (by omega) (by omega)])]
theorem ag_ifu {σ τ : Int → Int} (h : Ag σ τ) (p d s wh : Int) : ifu σ p d s wh = ifu τ p d s wh := by
  unfold ifu tol
  by_cases c : isp τ p
  · have c' : isp σ p := by show 0 ≤ p ∧ p ≤ σ 0 - 1; rw [h.n]; exact c
    rw [if_pos c', if_pos c, ag_rnf h p, ag_wby h c.1 (by omega), h.p (k := 2) c.1 (by omega) (by omega) (by omega)]
    have e : bI (cov σ p s) = bI (cov τ p s) := by
      by_cases z : cov τ p s
      · rw [bI_t z, bI_t ((ag_cov h p s).mpr z)]
      · rw [bI_f z, bI_f (fun y => z ((ag_cov h p s).mp y))]
    rw [e]
  · have c' : ¬ isp σ p := by show ¬ (0 ≤ p ∧ p ≤ σ 0 - 1); rw [h.n]; exact c
    rw [if_neg c', if_neg c]
theorem ag_pair {σ τ : Int → Int} (h : Ag σ τ) (p : Int) : pair σ p ↔ pair τ p := by
  show (_ ∧ _) ↔ (_ ∧ _); rw [h.n]
theorem ag_mor {σ τ : Int → Int} (h : Ag σ τ) {p : Int} (c : pair τ p) : mor σ p = mor τ p := by
  unfold mor
  rw [h.p (x := p) (k := 4) c.1 (by omega) (by omega) (by omega), h.p (x := p) (k := 1) c.1 (by omega) (by omega) (by omega), h.p (x := p + 1) (k := 4) (by omega) (by omega) (by omega) (by omega), h.p (x := p + 1) (k := 1) (by omega) (by omega) (by omega) (by omega)]
theorem ag_why {σ τ : Int → Int} (h : Ag σ τ) {p : Int} (c : pair τ p) : why σ p = why τ p := by
  unfold why
  rw [ag_mor h c, h.p (x := p) (k := 4) c.1 (by omega) (by omega) (by omega), h.p (x := p + 1) (k := 4) (by omega) (by omega) (by omega) (by omega)]
theorem ag_reu {σ τ : Int → Int} (h : Ag σ τ) (p : Int) : reu σ p = reu τ p := by
  unfold reu
  by_cases c : pair τ p
  · rw [if_pos ((ag_pair h p).mpr c), if_pos c, ag_why h c]
  · rw [if_neg (fun z => c ((ag_pair h p).mp z)), if_neg c]
theorem ag_awb {σ τ : Int → Int} (h : Ag σ τ) (d s : Int) : awb σ d s = awb τ d s := by
  unfold awb awf
  rw [h.n]
  exact it_cong _ _ _ _ (fun j r j0 j1 => by show r + wby σ j d s = r + wby τ j d s; rw [ag_wby h j0 j1])
theorem ag_xch {σ τ : Int → Int} (h : Ag σ τ) {p k : Int} (c : pair τ p) (k0 : 0 ≤ k) (k1 : k ≤ 5) : Ag (xch σ p k) (xch τ p k) :=
  ag_up (ag_up h (by omega) (h.p (by omega) (by omega) k0 k1)) (by omega) (h.p (by omega) (by omega) k0 k1)
theorem ag_bsu {σ τ : Int → Int} (h : Ag σ τ) (d s : Int) : bsu σ d s = bsu τ d s := by
  unfold bsu bsl
  rw [h.n, ag_awb h, it_cong _ (bsf τ d s) _ _ (fun j r j0 j1 => by
    have c : pair τ j := ⟨j0, by omega⟩
    show bsf σ d s j r = bsf τ d s j r
    unfold bsf
    rw [ag_why h c, ag_awb (ag_xch h c (by omega) (by omega))])]
theorem ag_srv {σ τ : Int → Int} (h : Ag σ τ) : srv σ = srv τ := by unfold srv; rw [h.n, h.c (by omega) (by omega)]
theorem ag_dri {σ τ : Int → Int} (h : Ag σ τ) {n : Int} (n0 : 1 ≤ n) (n1 : n ≤ τ 0) : dri σ n = dri τ n := by
  have key := it_ind (drf σ) 0 (fun i x => x = dri τ i ∧ 0 ≤ x ∧ x < τ 0) n ⟨rfl, by omega, by omega⟩ (fun i x i0 i1 hx => by
    obtain ⟨x1, x2, x3⟩ := hx
    show drf σ i x = dri τ (i + 1) ∧ 0 ≤ drf σ i x ∧ drf σ i x < τ 0
    have e : dri τ (i + 1) = drf τ i (dri τ i) := it_s _ _ i0
    rw [e, ← x1]
    unfold drf
    rw [h.p i0 (by omega) (by omega) (by omega), h.p x2 x3 (by omega) (by omega)]
    refine ⟨rfl, ?_, ?_⟩ <;> split <;> omega) n (by omega) (Int.le_refl n)
  exact key.1
theorem ag_cpd {σ τ : Int → Int} (h : Ag σ τ) (hn : τ 0 ≠ 0) (hv : 1 ≤ τ 11 ∧ τ 11 ≤ 4) : cpd σ = cpd τ := by
  have hs := srv_b (σ := τ) (by have := h.1; omega) hv
  have hd := dri_b τ hs.1
  unfold cpd
  rw [ag_srv h, ag_dri h hs.1 hs.2.2, h.p hd.1 (by omega) (by omega) (by omega), h.c (by omega) (by omega)]
theorem ag_seu {σ τ : Int → Int} (h : Ag σ τ) (hv : 1 ≤ τ 11 ∧ τ 11 ≤ 4) : seu σ = seu τ := by
  unfold seu
  rw [h.n]
  split
  · rfl
  · next c => exact ag_cpd h c hv
theorem ag_pyu {σ τ : Int → Int} (h : Ag σ τ) (hv : 1 ≤ τ 11 ∧ τ 11 ≤ 4) (wh : Int) : pyu σ wh = pyu τ wh := by
  unfold pyu
  rw [h.n]
  by_cases c : τ 0 = 0
  · rw [if_pos c, if_pos c]
  · have hs := srv_b (σ := τ) (by have := h.1; omega) hv
    rw [if_neg c, if_neg c, ag_cpd h c hv, ag_srv h, ag_dri h hs.1 hs.2.2]
theorem ag_beu {σ τ : Int → Int} (h : Ag σ τ) (p d : Int) : beu σ p d = beu τ p d := by
  unfold beu
  by_cases c : isp τ p
  · have c' : isp σ p := by show 0 ≤ p ∧ p ≤ σ 0 - 1; rw [h.n]; exact c
    rw [if_pos c', if_pos c, ag_wtr h, h.p (k := 2) c.1 (by omega) (by omega) (by omega), h.p (k := 1) c.1 (by omega) (by omega) (by omega)]
  · have c' : ¬ isp σ p := by show ¬ (0 ≤ p ∧ p ≤ σ 0 - 1); rw [h.n]; exact c
    rw [if_neg c', if_neg c]
theorem ag_swf {σ τ : Int → Int} (h : Ag σ τ) : swf σ (σ 0) = swf τ (τ 0) := by
  unfold swf
  rw [h.n]
  exact it_cong _ _ _ _ (fun j r j0 j1 => by show r + σ _ = r + τ _; rw [h.p j0 j1 (by omega) (by omega)])
theorem ag_wtu {σ τ : Int → Int} (h : Ag σ τ) : wtu σ = wtu τ := by
  unfold wtu
  rw [h.n]
  by_cases c : τ 0 = 0
  · rw [if_pos c, if_pos c]
  · rw [if_neg c, if_neg c]
    have hb := h.1
    have key := it_ind (fun p f => if σ (13 + 6 * f + 1) < σ (13 + 6 * p + 1) then p else f) 0 (fun i x => x = wtt τ i ∧ 0 ≤ x ∧ x < τ 0) (τ 0) ⟨rfl, by omega, by omega⟩ (fun i x i0 i1 hx => by
      obtain ⟨x1, x2, x3⟩ := hx
      show (if σ (13 + 6 * x + 1) < σ (13 + 6 * i + 1) then i else x) = wtt τ (i + 1) ∧ 0 ≤ (if σ (13 + 6 * x + 1) < σ (13 + 6 * i + 1) then i else x) ∧ (if σ (13 + 6 * x + 1) < σ (13 + 6 * i + 1) then i else x) < τ 0
      have e : wtt τ (i + 1) = if τ (13 + 6 * (wtt τ i) + 1) < τ (13 + 6 * i + 1) then i else wtt τ i := it_s _ _ i0
      rw [e, ← x1, h.p i0 (by omega) (by omega) (by omega), h.p x2 x3 (by omega) (by omega)]
      refine ⟨rfl, ?_, ?_⟩ <;> split <;> omega) (τ 0) (by omega) (Int.le_refl _)
    exact key.1
theorem ag_unf {σ τ : Int → Int} (h : Ag σ τ) : unf σ (σ 0) = unf τ (τ 0) := by
  unfold unf
  have e : (fun (p a : Int) => a + bI (rch σ p (σ 0) = 0)) = fun (p a : Int) => a + bI (rch τ p (τ 0) = 0) := by funext p a; rw [ag_rch h p]
  rw [e, h.n]
theorem ag_cnu {σ τ : Int → Int} (h : Ag σ τ) (kn le wh : Int) : cnu σ kn le wh = cnu τ kn le wh := by
  unfold cnu
  rw [ag_swf h, ag_wtu h, ag_unf h]
  by_cases c : 0 ≤ wh ∧ wh ≤ 9
  · rw [if_pos c, if_pos c, h.c (by omega) (by omega)]
  · rw [if_neg c, if_neg c]
    by_cases c2 : 13 ≤ wh ∧ wh ≤ 15
    · rw [h.c (k := wh - 3) (by omega) (by omega)]
    · rw [if_neg c2, if_neg c2]
/-! the acts: what they answer, and the numbers after them -/
theorem ag_comu {σ τ : Int → Int} (h : Ag σ τ) (pa co wi : Int) : comu σ pa co wi = comu τ pa co wi := by unfold comu; rw [h.n, h.c (k := 1) (by omega) (by omega)]
theorem ag_com {σ τ : Int → Int} (h : Ag σ τ) (pa co wi : Int) (hn : τ 0 < 16) : Ag (com σ pa co wi) (com τ pa co wi) := by
  have hb := h.1
  have e0 : com τ pa co wi 0 = τ 0 + 1 := by simp only [com]; rw [up_n _ _ (by omega), up_n _ _ (by omega), up_n _ _ (by omega), up_n _ _ (by omega), up_n _ _ (by omega), up_n _ _ (by omega), up_n _ _ (by omega), up_s]
  have q1 : ∀ f : Int → Int, ∀ a b x d e g v : Int, 0 ≤ f 0 → up (up (up (up (up (up (up f 0 v) (13 + 6 * f 0 + 0) a) (13 + 6 * f 0 + 1) b) (13 + 6 * f 0 + 2) x) (13 + 6 * f 0 + 3) d) (13 + 6 * f 0 + 4) e) (13 + 6 * f 0 + 5) g 1 = f 1 := fun f a b x d e g v hf => by
    rw [up_n _ _ (by omega), up_n _ _ (by omega), up_n _ _ (by omega), up_n _ _ (by omega), up_n _ _ (by omega), up_n _ _ (by omega), up_n _ _ (by omega)]
  refine ⟨by rw [e0]; omega, fun k k0 k1 => ?_⟩
  rw [e0] at k1
  have hs0 : 0 ≤ σ 0 := by rw [h.n]; exact hb.1
  simp only [com]
  rw [q1 σ _ _ _ _ _ _ _ hs0, q1 τ _ _ _ _ _ _ _ hb.1]
  rw [h.n, h.c (k := 1) (by omega) (by omega)]
  have q2 : up σ 0 (τ 0 + 1) 1 = τ 1 := by rw [up_n _ _ (by omega), h.c (k := 1) (by omega) (by omega)]
  have q3 : up τ 0 (τ 0 + 1) 1 = τ 1 := up_n _ _ (by omega)
  rw [q2, q3]
  by_cases c : k < 13 + 6 * τ 0
  · have e := h.2 k k0 c
    unfold up
    (repeat' split) <;> first | rfl | omega | exact e
  · unfold up
    (repeat' split) <;> first | rfl | omega
theorem ag_comv {σ τ : Int → Int} (h : Ag σ τ) (pa co wi : Int) : Ag (comW σ pa co wi) (comv τ pa co wi) := by
  rw [comW_eq σ pa co wi (by rw [h.n]; exact h.1.1)]
  unfold comv
  rw [ag_comu h]
  split
  · next c =>
    have hb := h.1
    refine ag_com h pa co wi ?_
    unfold comu at c
    (repeat' split at c) <;> omega
  · exact h
theorem ag_levu {σ τ : Int → Int} (h : Ag σ τ) (p : Int) : levu σ p = levu τ p := by
  unfold levu
  by_cases c : isp τ p
  · have c' : isp σ p := by show 0 ≤ p ∧ p ≤ σ 0 - 1; rw [h.n]; exact c
    rw [if_pos c', if_pos c, h.p (k := 1) c.1 (by omega) (by omega) (by omega)]
  · have c' : ¬ isp σ p := by show ¬ (0 ≤ p ∧ p ≤ σ 0 - 1); rw [h.n]; exact c
    rw [if_neg c', if_neg c]
theorem ag_rm {r1 r2 : (Int → Int) → Int → Int → Int} (h1 : rmo r1) (h2 : rmo r2) {σ τ : Int → Int} (h : Ag σ τ) {p : Int} (p0 : 0 ≤ p) (p1 : p < τ 0) : Ag (r1 σ p) (r2 τ p) := by
  have hb := h.1
  obtain ⟨a1, a2, a3⟩ := h1 σ p p0 (by rw [h.n]; exact p1) (by rw [h.n]; exact hb.2)
  obtain ⟨b1, b2, b3⟩ := h2 τ p p0 p1 hb.2
  refine ⟨by rw [b1]; omega, fun k k0 k1 => ?_⟩
  rw [b1] at k1
  by_cases c0 : k = 0
  · rw [c0, a1, b1, h.n]
  · by_cases c : k < 13 + 6 * p
    · rw [a2 k (by omega) c, b2 k (by omega) c]; exact h.2 k k0 (by omega)
    · rw [a3 k (by omega) (by rw [h.n]; omega), b3 k (by omega) (by omega)]; exact h.2 _ (by omega) (by omega)
theorem ag_levv {σ τ : Int → Int} (h : Ag σ τ) (p : Int) : Ag (levW σ p) (levv τ p) := by
  unfold levW levv
  by_cases c : isp τ p
  · have c' : isp σ p := by show 0 ≤ p ∧ p ≤ σ 0 - 1; rw [h.n]; exact c
    rw [if_pos c', if_pos c]
    have hr := ag_rm rmv_o goes_o h c.1 (by omega)
    exact ag_up hr (by omega) (by rw [hr.c (k := 2) (by omega) (by omega)])
  · have c' : ¬ isp σ p := by show ¬ (0 ≤ p ∧ p ≤ σ 0 - 1); rw [h.n]; exact c
    rw [if_neg c', if_neg c]; exact h
theorem ag_ltu {σ τ : Int → Int} (h : Ag σ τ) (p : Int) : ltu σ p = ltu τ p := by
  unfold ltu
  by_cases c : pair τ p
  · rw [if_pos ((ag_pair h p).mpr c), if_pos c, h.p (x := p + 1) (k := 0) (by omega) (by omega) (by omega) (by omega)]
  · rw [if_neg (fun z => c ((ag_pair h p).mp z)), if_neg c]
theorem ag_ltv {σ τ : Int → Int} (h : Ag σ τ) (p : Int) : Ag (ltv σ p) (ltv τ p) := by
  unfold ltv
  by_cases c : pair τ p
  · rw [if_pos ((ag_pair h p).mpr c), if_pos c]
    have key := it_ind (fun k st => xch st p k) σ (fun i x => Ag x (xls τ p i) ∧ xls τ p i 0 = τ 0) 6 ⟨h, rfl⟩ (fun i x i0 i1 hx => by
      have e : xls τ p (i + 1) = xch (xls τ p i) p i := it_s _ _ i0
      show Ag (xch x p i) (xls τ p (i + 1)) ∧ xls τ p (i + 1) 0 = τ 0
      rw [e]
      refine ⟨ag_xch hx.1 (by show 0 ≤ p ∧ p + 1 ≤ xls τ p i 0 - 1; rw [hx.2]; exact c) i0 (by omega), ?_⟩
      unfold xch
      rw [up_n _ _ (by omega), up_n _ _ (by omega)]; exact hx.2) 6 (by omega) (Int.le_refl 6)
    exact key.1
  · rw [if_neg (fun z => c ((ag_pair h p).mp z)), if_neg c]; exact h
theorem ag_setu {σ τ : Int → Int} (h : Ag σ τ) (wh v : Int) : setu σ wh v = setu τ wh v := by
  unfold setu
  by_cases c : 0 ≤ wh ∧ wh ≤ 2
  · rw [if_pos c, if_pos c, h.c (k := 10 + wh) (by omega) (by omega)]
  · rw [if_neg c, if_neg c]
theorem ag_setv {σ τ : Int → Int} (h : Ag σ τ) (wh v : Int) : Ag (setv σ wh v) (setv τ wh v) := by
  unfold setv
  rw [ag_setu h]
  split
  · next c =>
    have : 0 ≤ wh := by
      unfold setu at c
      (repeat' split at c) <;> omega
    exact ag_up h (by omega) rfl
  · exact h
theorem ag_sw3 {σ τ : Int → Int} (h : Ag σ τ) {p : Int} (c : pair τ p) : Ag (sw3 σ p) (sw3 τ p) := by
  have h1 := ag_xch h c (k := 4) (by omega) (by omega)
  have e1 : xch τ p 4 0 = τ 0 := by unfold xch; rw [up_n _ _ (by omega), up_n _ _ (by omega)]
  have h2 : Ag (sw1 σ p) (sw1 τ p) := ag_up h1 (by omega) (by rw [h1.p (k := 5) c.1 (by rw [e1]; omega) (by omega) (by omega)])
  have e2 : sw1 τ p 0 = τ 0 := by unfold sw1; rw [up_n _ _ (by omega), e1]
  have h3 : Ag (sw2 σ p) (sw2 τ p) := ag_up h2 (by omega) (by rw [h2.p (x := p + 1) (k := 5) (by omega) (by rw [e2]; omega) (by omega) (by omega)])
  exact ag_up h3 (by omega) (by rw [h3.c (by omega) (by omega)])
theorem sw3_0 (σ : Int → Int) {p : Int} (c : 0 ≤ p) : sw3 σ p 0 = σ 0 := by
  unfold sw3 sw2 sw1 xch
  rw [up_n _ _ (by omega), up_n _ _ (by omega), up_n _ _ (by omega), up_n _ _ (by omega), up_n _ _ (by omega)]
theorem ag_swu {σ τ : Int → Int} (h : Ag σ τ) (p : Int) : swu σ p = swu τ p := by
  unfold swu
  by_cases c : pair τ p
  · rw [if_pos ((ag_pair h p).mpr c), if_pos c, ag_why h c, (ag_sw3 h c).p (k := 4) c.1 (by rw [sw3_0 τ c.1]; omega) (by omega) (by omega)]
  · rw [if_neg (fun z => c ((ag_pair h p).mp z)), if_neg c]
theorem ag_swv {σ τ : Int → Int} (h : Ag σ τ) (p : Int) : Ag (swv σ p) (swv τ p) := by
  unfold swv
  by_cases c : pair τ p
  · rw [ag_why h c]
    by_cases c2 : 0 < why τ p
    · rw [if_neg (fun z => z.2 c2), if_neg (fun z => z.2 c2)]; exact h
    · rw [if_pos ⟨(ag_pair h p).mpr c, c2⟩, if_pos ⟨c, c2⟩]; exact ag_sw3 h c
  · rw [if_neg (fun z => c ((ag_pair h p).mp z.1)), if_neg (fun z => c z.1)]; exact h
