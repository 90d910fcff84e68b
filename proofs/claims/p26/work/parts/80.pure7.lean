/-! What the law holds a state to. -/
def Ids (σ : Int → Int) : Prop := ∀ x y : Int, 0 ≤ x → x < σ 0 → 0 ≤ y → y < σ 0 → σ (13 + 6 * x + 0) = σ (13 + 6 * y + 0) → x = y
def Ltc (σ : Int → Int) : Prop := ∀ x : Int, 0 ≤ x → x < σ 0 → σ (13 + 6 * x + 0) < σ 1
def Acc (σ : Int → Int) : Prop := σ 1 = σ 0 + σ 2 + σ 3 + σ 4
def Jv (σ : Int → Int) : Prop := Iv σ ∧ Ids σ ∧ Ltc σ ∧ Acc σ
/-- the people of σ' are people of σ, each once -/
def Emb (σ σ' : Int → Int) : Prop := ∃ g : Int → Int, (∀ x : Int, 0 ≤ x → x < σ' 0 → (0 ≤ g x ∧ g x < σ 0) ∧ ∀ k : Int, 0 ≤ k → k < 6 → σ' (13 + 6 * x + k) = σ (13 + 6 * g x + k)) ∧ (∀ x y : Int, 0 ≤ x → x < σ' 0 → 0 ≤ y → y < σ' 0 → g x = g y → x = y)
theorem Emb.rf (σ : Int → Int) : Emb σ σ := ⟨fun x => x, fun x h0 h1 => ⟨⟨h0, h1⟩, fun _ _ _ => rfl⟩, fun _ _ _ _ _ _ h => h⟩
theorem Emb.tr {σ σ' σ'' : Int → Int} (h : Emb σ σ') (h' : Emb σ' σ'') : Emb σ σ'' := by
  obtain ⟨g, a, b⟩ := h
  obtain ⟨g', a', b'⟩ := h'
  refine ⟨fun x => g (g' x), fun x x0 x1 => ?_, fun x y x0 x1 y0 y1 e => ?_⟩
  · obtain ⟨⟨c0, c1⟩, c2⟩ := a' x x0 x1
    obtain ⟨d0, d2⟩ := a (g' x) c0 c1
    exact ⟨d0, fun k k0 k1 => (c2 k k0 k1).trans (d2 k k0 k1)⟩
  · obtain ⟨⟨c0, c1⟩, -⟩ := a' x x0 x1
    obtain ⟨⟨d0, d1⟩, -⟩ := a' y y0 y1
    exact b' x y x0 x1 y0 y1 (b _ _ c0 c1 d0 d1 e)
theorem Emb.rm {rm : (Int → Int) → Int → Int → Int} (hr : rmo rm) {st : Int → Int} {p : Int} (p0 : 0 ≤ p) (p1 : p < st 0) (h16 : st 0 ≤ 16) : Emb st (rm st p) := by
  obtain ⟨y1, y2, y3⟩ := hr st p p0 p1 h16
  refine ⟨fun x => if x < p then x else x + 1, fun x x0 x1 => ?_, fun x y x0 x1 z0 z1 e => ?_⟩
  · by_cases c : x < p
    · have e : (fun x : Int => if x < p then x else x + 1) x = x := if_pos c
      rw [e]
      exact ⟨⟨x0, by omega⟩, fun k k0 k1 => y2 _ (by omega) (by omega)⟩
    · have e : (fun x : Int => if x < p then x else x + 1) x = x + 1 := if_neg c
      rw [e]
      exact ⟨⟨by omega, by omega⟩, fun k k0 k1 => (y3 _ (by omega) (by omega)).trans (congrArg st (by omega))⟩
  · have e : (if x < p then x else x + 1) = (if y < p then y else y + 1) := e
    split at e <;> split at e <;> omega
theorem Emb.ids {σ σ' : Int → Int} (h : Emb σ σ') (hi : Ids σ) : Ids σ' := by
  obtain ⟨g, a, b⟩ := h
  intro x y x0 x1 y0 y1 e
  obtain ⟨⟨c0, c1⟩, c2⟩ := a x x0 x1
  obtain ⟨⟨d0, d1⟩, d2⟩ := a y y0 y1
  rw [c2 0 (by omega) (by omega), d2 0 (by omega) (by omega)] at e
  exact b x y x0 x1 y0 y1 (hi _ _ c0 c1 d0 d1 e)
theorem Emb.lt {σ σ' : Int → Int} (h : Emb σ σ') (h1 : σ' 1 = σ 1) (hl : Ltc σ) : Ltc σ' := by
  obtain ⟨g, a, b⟩ := h
  intro x x0 x1
  obtain ⟨⟨c0, c1⟩, c2⟩ := a x x0 x1
  rw [c2 0 (by omega) (by omega), h1]
  exact hl _ c0 c1
theorem Emb.ups {σ σ' : Int → Int} (h : Emb σ σ') {i : Int} (v : Int) (i1 : 1 ≤ i) (i2 : i < 13) : Emb σ (up σ' i v) := by
  obtain ⟨g, a, b⟩ := h
  have e0 : up σ' i v 0 = σ' 0 := up_n _ _ (by omega)
  refine ⟨g, fun x x0 x1 => ?_, fun x y x0 x1 y0 y1 e => b x y x0 (by omega) y0 (by omega) e⟩
  obtain ⟨c0, c2⟩ := a x x0 (by omega)
  exact ⟨c0, fun k k0 k1 => (up_n _ _ (by omega)).trans (c2 k k0 k1)⟩
theorem Ids.same {σ σ' : Int → Int} (hi : Ids σ) (h0 : σ' 0 = σ 0) (h : ∀ x : Int, 0 ≤ x → x < σ 0 → σ' (13 + 6 * x + 0) = σ (13 + 6 * x + 0)) : Ids σ' := by
  intro x y x0 x1 y0 y1 e
  rw [h x x0 (by omega), h y y0 (by omega)] at e
  exact hi x y x0 (by omega) y0 (by omega) e
theorem Ltc.same {σ σ' : Int → Int} (hi : Ltc σ) (h0 : σ' 0 = σ 0) (h1 : σ' 1 = σ 1) (h : ∀ x : Int, 0 ≤ x → x < σ 0 → σ' (13 + 6 * x + 0) = σ (13 + 6 * x + 0)) : Ltc σ' := by
  intro x x0 x1
  rw [h x x0 (by omega), h1]
  exact hi x x0 (by omega)
/-- the coins: what was paid and not paid goes with what was served -/
def Far (σ σ' : Int → Int) : Prop := σ' 5 + σ' 6 = σ 5 + σ 6 + (σ' 4 - σ 4) * σ 12
theorem Far.same {σ σ' : Int → Int} (h4 : σ' 4 = σ 4) (h5 : σ' 5 = σ 5) (h6 : σ' 6 = σ 6) : Far σ σ' := by
  unfold Far; rw [h4, h5, h6, Int.sub_self, Int.zero_mul, Int.add_zero]
/-! each act -/
theorem com_v {σ : Int → Int} (pa co wi : Int) (hn : 0 ≤ σ 0) : com σ pa co wi 0 = σ 0 + 1 ∧ com σ pa co wi 1 = σ 1 + 1 ∧ com σ pa co wi (13 + 6 * σ 0 + 0) = σ 1 ∧ (∀ k : Int, 2 ≤ k → k < 13 + 6 * σ 0 → com σ pa co wi k = σ k) := by
  have e : ∀ k : Int, com σ pa co wi k = up (up (up (up (up (up (up (up σ 0 (σ 0 + 1)) (13 + 6 * σ 0 + 0) (up σ 0 (σ 0 + 1) 1)) (13 + 6 * σ 0 + 1) 0) (13 + 6 * σ 0 + 2) pa) (13 + 6 * σ 0 + 3) co) (13 + 6 * σ 0 + 4) wi) (13 + 6 * σ 0 + 5) 0) 1 ((up (up (up (up (up (up (up σ 0 (σ 0 + 1)) (13 + 6 * σ 0 + 0) (up σ 0 (σ 0 + 1) 1)) (13 + 6 * σ 0 + 1) 0) (13 + 6 * σ 0 + 2) pa) (13 + 6 * σ 0 + 3) co) (13 + 6 * σ 0 + 4) wi) (13 + 6 * σ 0 + 5) 0) 1 + 1) k := fun _ => rfl
  refine ⟨?_, ?_, ?_, fun k k0 k1 => ?_⟩
  · rw [e, up_n _ _ (by omega), up_n _ _ (by omega), up_n _ _ (by omega), up_n _ _ (by omega), up_n _ _ (by omega), up_n _ _ (by omega), up_n _ _ (by omega), up_s]
  · rw [e, up_s, up_n _ _ (by omega), up_n _ _ (by omega), up_n _ _ (by omega), up_n _ _ (by omega), up_n _ _ (by omega), up_n _ _ (by omega), up_n _ _ (by omega)]
  · rw [e, up_n _ _ (by omega), up_n _ _ (by omega), up_n _ _ (by omega), up_n _ _ (by omega), up_n _ _ (by omega), up_n _ _ (by omega), up_s, up_n _ _ (by omega)]
  · rw [e, up_n _ _ (by omega), up_n _ _ (by omega), up_n _ _ (by omega), up_n _ _ (by omega), up_n _ _ (by omega), up_n _ _ (by omega), up_n _ _ (by omega), up_n _ _ (by omega)]
theorem com_J {σ : Int → Int} (h : Jv σ) (pa co wi : Int) : Jv (comW σ pa co wi) ∧ Far σ (comW σ pa co wi) := by
  have hn := h.1.1.1
  rw [comW_eq σ pa co wi hn]
  obtain ⟨c0, c1, c2, c3⟩ := com_v (σ := σ) pa co wi hn
  have hI := com_I h.1 pa co wi
  unfold comv at hI ⊢
  split
  · next hc =>
    rw [if_pos hc] at hI
    refine ⟨⟨hI, fun x y x0 x1 y0 y1 e => ?_, fun x x0 x1 => ?_, ?_⟩, Far.same (c3 4 (by omega) (by omega)) (c3 5 (by omega) (by omega)) (c3 6 (by omega) (by omega))⟩
    · rw [c0] at x1 y1
      by_cases cx : x = σ 0
      · by_cases cy : y = σ 0
        · omega
        · rw [cx, c2, c3 _ (by omega) (by omega)] at e
          have := h.2.2.1 y y0 (by omega)
          omega
      · by_cases cy : y = σ 0
        · rw [cy, c2, c3 _ (by omega) (by omega)] at e
          have := h.2.2.1 x x0 (by omega)
          omega
        · rw [c3 _ (by omega) (by omega), c3 _ (by omega) (by omega)] at e
          exact h.2.1 x y x0 (by omega) y0 (by omega) e
    · rw [c0] at x1
      rw [c1]
      by_cases cx : x = σ 0
      · rw [cx, c2]; omega
      · rw [c3 _ (by omega) (by omega)]
        have := h.2.2.1 x x0 (by omega)
        omega
    · have := h.2.2.2
      unfold Acc at this ⊢
      rw [c0, c1, c3 2 (by omega) (by omega), c3 3 (by omega) (by omega), c3 4 (by omega) (by omega)]
      omega
  · exact ⟨h, Far.same rfl rfl rfl⟩
theorem lev_J {σ : Int → Int} (h : Jv σ) (p : Int) : Jv (levW σ p) ∧ Far σ (levW σ p) := by
  have hI := levW_I h.1 p
  unfold levW at hI ⊢
  split
  · next hc =>
    rw [if_pos hc] at hI
    obtain ⟨y1, y2, y3⟩ := rmv_o σ p (by omega) (by omega) h.1.1.2.1
    have hE := (Emb.rm rmv_o (st := σ) (p := p) (by omega) (by omega) h.1.1.2.1).ups (i := 2) (rmv σ p 2 + 1) (by omega) (by omega)
    have e : ∀ k : Int, 1 ≤ k → k < 13 → k ≠ 2 → up (rmv σ p) 2 (rmv σ p 2 + 1) k = σ k := fun k k0 k1 k2 => (up_n _ _ k2).trans (y2 k k0 (by omega))
    have e0 : up (rmv σ p) 2 (rmv σ p 2 + 1) 0 = σ 0 - 1 := (up_n _ _ (by omega)).trans y1
    have e2 : up (rmv σ p) 2 (rmv σ p 2 + 1) 2 = σ 2 + 1 := by rw [up_s, y2 2 (by omega) (by omega)]
    refine ⟨⟨hI, hE.ids h.2.1, hE.lt (e 1 (by omega) (by omega) (by omega)) h.2.2.1, ?_⟩, Far.same (e 4 (by omega) (by omega) (by omega)) (e 5 (by omega) (by omega) (by omega)) (e 6 (by omega) (by omega) (by omega))⟩
    have := h.2.2.2
    unfold Acc at this ⊢
    rw [e0, e2, e 1 (by omega) (by omega) (by omega), e 3 (by omega) (by omega) (by omega), e 4 (by omega) (by omega) (by omega)]
    omega
  · exact ⟨h, Far.same rfl rfl rfl⟩
theorem lt_J {σ : Int → Int} (h : Jv σ) (p : Int) : Jv (ltv σ p) ∧ Far σ (ltv σ p) := by
  have hI := lt_I h.1 p
  unfold ltv at hI ⊢
  split
  · next hc =>
    rw [if_pos hc] at hI
    obtain ⟨z1, z2, -, z4⟩ := xls_i σ (p := p) hc.1 6 (by omega) (by omega)
    have hE : Emb σ (xls σ p 6) := by
      have e0 := z1 0 (by omega)
      refine ⟨fun x => if x = p then p + 1 else if x = p + 1 then p else x, fun x x0 x1 => ?_, fun x y x0 x1 y0 y1 e => ?_⟩
      · by_cases c : x = p
        · have e : (fun x : Int => if x = p then p + 1 else if x = p + 1 then p else x) x = p + 1 := if_pos c
          rw [e]
          exact ⟨⟨by omega, by omega⟩, fun k k0 k1 => by rw [c]; exact (z2 k k0 k1).1⟩
        · by_cases c2 : x = p + 1
          · have e : (fun x : Int => if x = p then p + 1 else if x = p + 1 then p else x) x = p := (if_neg c).trans (if_pos c2)
            rw [e]
            exact ⟨⟨by omega, by omega⟩, fun k k0 k1 => by rw [c2]; exact (z2 k k0 k1).2⟩
          · have e : (fun x : Int => if x = p then p + 1 else if x = p + 1 then p else x) x = x := (if_neg c).trans (if_neg c2)
            rw [e]
            exact ⟨⟨by omega, by omega⟩, fun k k0 k1 => z4 _ (by omega) (by omega)⟩
      · have e : (if x = p then p + 1 else if x = p + 1 then p else x) = (if y = p then p + 1 else if y = p + 1 then p else y) := e
        revert e
        (repeat' split) <;> omega
    refine ⟨⟨hI, hE.ids h.2.1, hE.lt (z1 1 (by omega)) h.2.2.1, ?_⟩, Far.same (z1 4 (by omega)) (z1 5 (by omega)) (z1 6 (by omega))⟩
    have := h.2.2.2
    unfold Acc at this ⊢
    rw [z1 0 (by omega), z1 1 (by omega), z1 2 (by omega), z1 3 (by omega), z1 4 (by omega)]
    exact this
  · exact ⟨h, Far.same rfl rfl rfl⟩
theorem sw3_n (σ : Int → Int) {p j : Int} (h1 : j ≠ 13 + 6 * p + 4) (h2 : j ≠ 13 + 6 * (p + 1) + 4) (h3 : j ≠ 13 + 6 * p + 5) (h4 : j ≠ 13 + 6 * (p + 1) + 5) (h5 : j ≠ 7) : sw3 σ p j = σ j := by
  unfold sw3 sw2 sw1 xch
  rw [up_n _ _ h5, up_n _ _ h4, up_n _ _ h3, up_n _ _ h2, up_n _ _ h1]
theorem same_J {σ σ' : Int → Int} (h : Jv σ) (hI : Iv σ') (hl : ∀ k : Int, 0 ≤ k → k < 7 → σ' k = σ k) (hx : ∀ x : Int, 0 ≤ x → x < σ 0 → σ' (13 + 6 * x + 0) = σ (13 + 6 * x + 0)) : Jv σ' ∧ Far σ σ' := by
  have h0 := hl 0 (by omega) (by omega)
  have h1 := hl 1 (by omega) (by omega)
  refine ⟨⟨hI, h.2.1.same h0 hx, h.2.2.1.same h0 h1 hx, ?_⟩, Far.same (hl 4 (by omega) (by omega)) (hl 5 (by omega) (by omega)) (hl 6 (by omega) (by omega))⟩
  have := h.2.2.2
  unfold Acc at this ⊢
  rw [h0, h1, hl 2 (by omega) (by omega), hl 3 (by omega) (by omega), hl 4 (by omega) (by omega)]
  exact this
theorem sw_J {σ : Int → Int} (h : Jv σ) (p : Int) : Jv (swv σ p) ∧ Far σ (swv σ p) := by
  have hI := sw_I h.1 p
  unfold swv at hI ⊢
  split
  · next hc =>
    rw [if_pos hc] at hI
    have hp := hc.1.1
    exact same_J h hI (fun k k0 k1 => sw3_n σ (by omega) (by omega) (by omega) (by omega) (by omega)) (fun x x0 x1 => sw3_n σ (by omega) (by omega) (by omega) (by omega) (by omega))
  · exact ⟨h, Far.same rfl rfl rfl⟩
theorem set_J {σ : Int → Int} (h : Jv σ) (wh v : Int) : Jv (setv σ wh v) ∧ Far σ (setv σ wh v) := by
  have hI := set_I h.1 wh v
  unfold setv at hI ⊢
  split
  · next hc =>
    rw [if_pos hc] at hI
    have hw : 0 ≤ wh := by
      have := hc
      unfold setu at this
      by_cases c : 0 ≤ wh ∧ wh ≤ 2
      · exact c.1
      · rw [if_neg c] at this; omega
    exact same_J h hI (fun k k0 k1 => up_n _ _ (by omega)) (fun x x0 x1 => up_n _ _ (by
      have := hc
      unfold setu at this
      by_cases c : 0 ≤ wh ∧ wh ≤ 2
      · omega
      · rw [if_neg c] at this; omega))
  · exact ⟨h, Far.same rfl rfl rfl⟩
theorem pv_J {σ : Int → Int} (h : Jv σ) (mi : Int) : Jv (pvW σ mi) ∧ Far σ (pvW σ mi) := by
  have hI := pvW_I h.1 mi
  unfold pvW at hI ⊢
  split
  · next hc =>
    rw [if_pos hc] at hI
    exact same_J h hI (fun k k0 k1 => (dr_n _ _ _ (by omega)).trans (up_n _ _ (by omega))) (fun x x0 x1 => (dr_n _ _ _ (by omega)).trans (up_n _ _ (by omega)))
  · exact ⟨h, Far.same rfl rfl rfl⟩
theorem rmk_E {σ : Int → Int} (h16 : σ 0 ≤ 16) {n : Int} (h1 : n ≤ σ 0) : ∀ j : Int, 0 ≤ j → j ≤ n → rmk σ n j 0 = σ 0 - j ∧ Emb σ (rmk σ n j) ∧ ∀ k : Int, 1 ≤ k → k < 13 → rmk σ n j k = σ k := by
  intro j j0 j1
  exact it_ind (fun j st => rmv st (n - 1 - j)) σ (fun j st => st 0 = σ 0 - j ∧ Emb σ st ∧ ∀ k : Int, 1 ≤ k → k < 13 → st k = σ k) n ⟨by omega, Emb.rf σ, fun k _ _ => rfl⟩ (fun i st i0 i1 hx => by
    obtain ⟨x1, x2, x3⟩ := hx
    obtain ⟨y1, y2, -⟩ := rmv_o st (n - 1 - i) (by omega) (by omega) (by omega)
    show rmv st (n - 1 - i) 0 = σ 0 - (i + 1) ∧ Emb σ (rmv st (n - 1 - i)) ∧ ∀ k : Int, 1 ≤ k → k < 13 → rmv st (n - 1 - i) k = σ k
    exact ⟨by omega, x2.tr (Emb.rm rmv_o (by omega) (by omega) (by omega)), fun k k0 k1 => (y2 k k0 (by omega)).trans (x3 k k0 k1)⟩) j j0 j1
theorem sev_J {σ : Int → Int} (h : Jv σ) : Jv (sevW σ) ∧ Far σ (sevW σ) := by
  have hI := sevW_I h.1
  unfold sevW at hI ⊢
  split
  · exact ⟨h, Far.same rfl rfl rfl⟩
  · next hc =>
    rw [if_neg hc] at hI
    obtain ⟨b, f, g⟩ := Iv_iff.mp h.1
    have hs := srv_b (σ := σ) (by omega) g.2.2.2.1
    have s0 : sa3 σ 0 = σ 0 := by simp [sa3, sa2, sa1, up]
    have s4 : sa3 σ 4 = σ 4 + srv σ := by simp [sa3, sa2, sa1, up]
    have s5 : sa3 σ 5 = σ 5 + cpd σ := by simp [sa3, sa2, sa1, up]
    have s6 : sa3 σ 6 = σ 6 + (srv σ * σ 12 - cpd σ) := by simp [sa3, sa2, sa1, up, srv]
    have sl : ∀ k : Int, k ≠ 4 → k ≠ 5 → k ≠ 6 → sa3 σ k = σ k := fun k a b c => by
      unfold sa3 sa2 sa1
      rw [up_n _ _ a, up_n _ _ c, up_n _ _ b]
    obtain ⟨r0, r1, r2⟩ := rmk_E (σ := sa3 σ) (by omega) (n := srv σ) (by omega) (srv σ) (by omega) (Int.le_refl _)
    have hE : Emb σ (sa3 σ) := ((Emb.rf σ).ups _ (by omega) (by omega)).ups _ (by omega) (by omega) |>.ups _ (by omega) (by omega)
    have hE := hE.tr r1
    refine ⟨⟨hI, hE.ids h.2.1, hE.lt ((r2 1 (by omega) (by omega)).trans (sl 1 (by omega) (by omega) (by omega))) h.2.2.1, ?_⟩, ?_⟩
    · have := h.2.2.2
      unfold Acc at this ⊢
      rw [r0, r2 1 (by omega) (by omega), r2 2 (by omega) (by omega), r2 3 (by omega) (by omega), r2 4 (by omega) (by omega), s0, s4, sl 1 (by omega) (by omega) (by omega), sl 2 (by omega) (by omega) (by omega), sl 3 (by omega) (by omega) (by omega)]
      omega
    · unfold Far
      rw [r2 4 (by omega) (by omega), r2 5 (by omega) (by omega), r2 6 (by omega) (by omega), s4, s5, s6, show σ 4 + srv σ - σ 4 = srv σ by omega]
      omega
