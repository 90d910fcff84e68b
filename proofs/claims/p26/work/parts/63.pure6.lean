/-! The class's acts keep the ranges; a text's things one by one. -/
theorem comA_eq (σ : Int → Int) (pa co wi : Int) (hn : 0 ≤ σ 0) : comA σ pa co wi = com σ pa co wi := by
  funext k
  show up (up (up (up (up (up (up (up σ (13 + 6 * σ 0 + 0) (σ 1)) (13 + 6 * σ 0 + 1) 0) (13 + 6 * σ 0 + 2) pa) (13 + 6 * σ 0 + 3) co) (13 + 6 * σ 0 + 4) wi) (13 + 6 * σ 0 + 5) 0) 0 _) 1 _ k = up (up (up (up (up (up (up (up σ 0 (σ 0 + 1)) (13 + 6 * σ 0 + 0) _) (13 + 6 * σ 0 + 1) 0) (13 + 6 * σ 0 + 2) pa) (13 + 6 * σ 0 + 3) co) (13 + 6 * σ 0 + 4) wi) (13 + 6 * σ 0 + 5) 0) 1 _ k
  have e0 : ∀ a b x d e f : Int, up (up (up (up (up (up σ (13 + 6 * σ 0 + 0) a) (13 + 6 * σ 0 + 1) b) (13 + 6 * σ 0 + 2) x) (13 + 6 * σ 0 + 3) d) (13 + 6 * σ 0 + 4) e) (13 + 6 * σ 0 + 5) f 0 = σ 0 := fun a b x d e f => by
    rw [up_n _ _ (by omega), up_n _ _ (by omega), up_n _ _ (by omega), up_n _ _ (by omega), up_n _ _ (by omega), up_n _ _ (by omega)]
  have e1 : ∀ a b x d e f v : Int, up (up (up (up (up (up (up σ (13 + 6 * σ 0 + 0) a) (13 + 6 * σ 0 + 1) b) (13 + 6 * σ 0 + 2) x) (13 + 6 * σ 0 + 3) d) (13 + 6 * σ 0 + 4) e) (13 + 6 * σ 0 + 5) f) 0 v 1 = σ 1 := fun a b x d e f v => by
    rw [up_n _ _ (by omega), up_n _ _ (by omega), up_n _ _ (by omega), up_n _ _ (by omega), up_n _ _ (by omega), up_n _ _ (by omega), up_n _ _ (by omega)]
  have e2 : up σ 0 (σ 0 + 1) 1 = σ 1 := up_n _ _ (by omega)
  have e3 : ∀ a b x d e f v : Int, up (up (up (up (up (up (up σ 0 v) (13 + 6 * σ 0 + 0) a) (13 + 6 * σ 0 + 1) b) (13 + 6 * σ 0 + 2) x) (13 + 6 * σ 0 + 3) d) (13 + 6 * σ 0 + 4) e) (13 + 6 * σ 0 + 5) f 1 = σ 1 := fun a b x d e f v => by
    rw [up_n _ _ (by omega), up_n _ _ (by omega), up_n _ _ (by omega), up_n _ _ (by omega), up_n _ _ (by omega), up_n _ _ (by omega), up_n _ _ (by omega)]
  rw [e0, e1, e2, e3]
  by_cases k1 : k = 1
  · rw [k1, up_s, up_s]
  · rw [up_n _ _ k1, up_n _ _ k1]
    by_cases k0 : k = 0
    · rw [k0, up_s, up_n _ _ (by omega), up_n _ _ (by omega), up_n _ _ (by omega), up_n _ _ (by omega), up_n _ _ (by omega), up_n _ _ (by omega), up_s]
    · rw [up_n _ _ k0]
      unfold up
      (repeat' split) <;> first | rfl | omega
theorem comW_eq (σ : Int → Int) (pa co wi : Int) (hn : 0 ≤ σ 0) : comW σ pa co wi = comv σ pa co wi := by
  unfold comW comv; rw [comA_eq σ pa co wi hn]
theorem levW_I {σ : Int → Int} (h : Iv σ) (p : Int) : Iv (levW σ p) := by
  unfold levW
  split
  · exact up_I (rm_I rmv_o h (by omega) (by omega)) (by omega)
  · exact h
theorem soW_I {σ : Int → Int} (hb : 0 ≤ σ 0 ∧ σ 0 ≤ 16) (hP : ∀ x : Int, 0 ≤ x → x < σ 0 → Pv σ x) (hC : Cv σ) : Iv (soW σ) :=
  up_I (rms_I rmv_o rfl hb.1 hb.2 hP hC) (by omega)
theorem g8_C {σ : Int → Int} (h : Cv σ) (d side : Int) : Cv (g8 σ d side) :=
  Cv_of h ((up_n _ _ (by omega)).trans (gw_n σ d side _ (by omega))) ((up_n _ _ (by omega)).trans (gw_n σ d side _ (by omega))) ((up_n _ _ (by omega)).trans (gw_n σ d side _ (by omega))) ((up_n _ _ (by omega)).trans (gw_n σ d side _ (by omega))) ((up_n _ _ (by omega)).trans (gw_n σ d side _ (by omega)))
theorem guW_I {σ : Int → Int} (h : Iv σ) (d side : Int) : Iv (guW σ d side) := by
  unfold guW
  obtain ⟨b, f, g⟩ := Iv_iff.mp h
  split
  · exact soW_I (by rw [g8_0]; exact b) (g8_P h (by omega) (by omega)) (g8_C g d side)
  · exact h
theorem pvW_I {σ : Int → Int} (h : Iv σ) (mi : Int) : Iv (pvW σ mi) := by
  unfold pvW
  have g9 := (Iv_iff.mp h).2.2.2.1
  split
  · have h9 := up9_I (v := σ 9 + mi) h (by omega)
    have := dr_I h9 (mi := mi) (by omega)
    rw [show up σ 9 (σ 9 + mi) 0 = σ 0 from up_n _ _ (by omega)] at this
    exact this
  · exact h
theorem rmk_I {σ : Int → Int} (h : Iv σ) {n : Int} (h1 : n ≤ σ 0) : ∀ j : Int, 0 ≤ j → j ≤ n → Iv (rmk σ n j) := by
  intro j j0 j1
  have key := it_ind (fun j st => rmv st (n - 1 - j)) σ (fun j st => Iv st ∧ st 0 = σ 0 - j) n ⟨h, by omega⟩ (fun i st i0 i1 hx => by
    show Iv (rmv st (n - 1 - i)) ∧ rmv st (n - 1 - i) 0 = σ 0 - (i + 1)
    exact ⟨rm_I rmv_o hx.1 (by omega) (by omega), by rw [rmv_0 st _ (by omega)]; omega⟩) j j0 j1
  exact key.1
theorem sevW_I {σ : Int → Int} (h : Iv σ) : Iv (sevW σ) := by
  unfold sevW
  obtain ⟨b, f, g⟩ := Iv_iff.mp h
  split
  · exact h
  · have h3 : Iv (sa3 σ) := up_I (up_I (up_I h (by omega)) (by omega)) (by omega)
    have hs := srv_b (σ := σ) (by omega) g.2.2.2.1
    have e3 : sa3 σ 0 = σ 0 := by simp [sa3, sa2, sa1, up]
    exact rmk_I h3 (by omega) _ (by omega) (Int.le_refl _)
theorem soA_b {σ : Int → Int} (hb : 0 ≤ σ 0 ∧ σ 0 ≤ 16) : 0 ≤ soA σ 0 ∧ soA σ 0 ≤ σ 0 := by
  have := rms_i (rmo_ok rmv_o) (σ := σ) (n := σ 0) rfl hb.2 (σ 0) hb.1 (Int.le_refl _)
  have h1 : rms rmv (σ 0) σ (σ 0) 0 ≤ σ 0 := this.1
  have h2 : σ 0 - σ 0 ≤ rms rmv (σ 0) σ (σ 0) 0 := this.2.1
  unfold soA; omega
theorem guA_b {σ : Int → Int} (h : Iv σ) (d side : Int) : -5 ≤ guA σ d side ∧ guA σ d side ≤ 16 ∧ (gst d side → guA σ d side < 0 → guA σ d side = -5) := by
  obtain ⟨b, f, g⟩ := Iv_iff.mp h
  have h8 := g8_0 σ d side
  have := soA_b (σ := g8 σ d side) (by rw [h8]; exact b)
  unfold guA; (repeat' split) <;> omega
theorem pu2_b {σ : Int → Int} (h : Iv σ) (mi : Int) : -3 ≤ pu2 σ mi ∧ pu2 σ mi ≤ 16 ∧ (1 ≤ mi ∧ mi ≤ 99 → pu2 σ mi < 0 → pu2 σ mi = -3) := by
  have := pau_b h mi
  unfold pu2; split <;> omega
theorem hpV_I {σ : Int → Int} (h : Iv σ) (cL nu sd : Int) : Iv (hpV σ cL nu sd) := by
  unfold hpV
  split
  · exact guW_I h nu sd
  · split
    · exact pvW_I h nu
    · split
      · exact sevW_I h
      · exact sw_I h nu
theorem hpU_b {σ : Int → Int} (h : Iv σ) {cL nu sd : Int} (hv : exok cL nu sd) : -13 ≤ hpU σ cL nu sd ∧ hpU σ cL nu sd ≤ 9999 ∧ (hpU σ cL nu sd < 0 → hpU σ cL nu sd = -5 ∨ hpU σ cL nu sd = -3 ∨ hpU σ cL nu sd = -1 ∨ hpU σ cL nu sd ≤ -11) := by
  unfold hpU
  by_cases c1 : cL = 103
  · rw [if_pos c1]; have := guA_b h nu sd; have := hv.1 c1; omega
  · rw [if_neg c1]
    by_cases c2 : cL = 46
    · rw [if_pos c2]; have := pu2_b h nu; have := hv.2.1 c2; omega
    · rw [if_neg c2]
      split
      · have := seu_b h; omega
      · have := swu_b h nu; omega
theorem itp_idx {τ : Int → Int} {le : Int} (hl : 0 ≤ le ∧ le ≤ 60) : ∀ n : Nat, (n : Int) ≤ (fin τ le).2 → (itp τ le n).2 = n := by
  have hf := itp_b τ hl.1 40 (by omega)
  have hf2 : 2 * (fin τ le).2 ≤ (fin τ le).1 ∧ (fin τ le).1 ≤ le := ⟨hf.2.2.1, hf.2.2.2⟩
  intro n
  induction n with
  | zero => intro _; rfl
  | succ n ih =>
    intro hn
    have h1 := ih (by omega)
    have he : ((itp τ le (n : Int)).1, (n : Int)) = itp τ le (n : Int) := Prod.ext rfl h1.symm
    by_cases c : cont τ le (itp τ le (n : Int)).1
    · have := itp_go (by omega) he c
      rw [show ((n + 1 : Nat) : Int) = (n : Int) + 1 by omega, ← this]
    · have := fin_at (by omega) (by omega) he c
      rw [this] at hn
      exact absurd hn (by show ¬ ((n + 1 : Nat) : Int) ≤ (n : Int); omega)
theorem itp_tok {τ : Int → Int} {le i : Int} (hl : 0 ≤ le ∧ le ≤ 60) (hw : wok τ le) (h0 : 0 ≤ i) (h1 : i ≤ (fin τ le).2) : ((itp τ le i).1, i) = itp τ le i ∧ tok τ le (itp τ le i).1 ∧ i ≤ 29 := by
  have hb := itp_b τ hl.1 i h0
  have hx := itp_idx (τ := τ) hl i.toNat (by omega)
  rw [show ((i.toNat : Nat) : Int) = i by omega] at hx
  have he : ((itp τ le i).1, i) = itp τ le i := Prod.ext rfl hx.symm
  have hf := itp_b τ hl.1 40 (by omega)
  have hf2 : 2 * (fin τ le).2 ≤ (fin τ le).1 ∧ (fin τ le).1 ≤ le := ⟨hf.2.2.1, hf.2.2.2⟩
  have ht := (wok_at hw h0 (by omega) he).1
  have := tok_lt ht
  exact ⟨he, ht, by omega⟩
theorem flt_b {τ : Int → Int} {le : Int} (hl : 0 ≤ le ∧ le ≤ 60) : 0 ≤ flt τ le ∧ flt τ le ≤ 100 := by
  have hf := itp_b τ hl.1 40 (by omega)
  have hf2 : 0 ≤ (fin τ le).2 ∧ 2 * (fin τ le).2 ≤ (fin τ le).1 ∧ (fin τ le).1 ≤ le := ⟨hf.1, hf.2.2.1, hf.2.2.2⟩
  unfold flt
  split
  · next h => have := ten_b h; omega
  · unfold tfl; split <;> omega
/-! perform, as the class does it -/
def mm (τ : Int → Int) (le : Int) : Int := if tok τ le (fin τ le).1 then (fin τ le).2 + 1 else (fin τ le).2
def paU (τ σ : Int → Int) (le : Int) : Int := if wok τ le then (if (ar τ σ le).2.2 < 0 then -4 else (fin τ le).2 + 1) else -100 - flt τ le
abbrev pdone (τ σ : Int → Int) (le : Int) : Prop := wok τ le ∧ ¬ (ar τ σ le).2.2 < 0
abbrev pstop (τ σ : Int → Int) (le : Int) : Prop := wok τ le ∧ (ar τ σ le).2.2 < 0
def paV (τ σ : Int → Int) (le : Int) : Int → Int := if pdone τ σ le then (ar τ σ le).1 else σ
theorem pdone_iff {τ σ : Int → Int} {le : Int} (hw : wok τ le) (h : (ar τ σ le).2.2 = 0) : pdone τ σ le ∧ ¬ pstop τ σ le := ⟨⟨hw, by omega⟩, fun z => by have := z.2; omega⟩
