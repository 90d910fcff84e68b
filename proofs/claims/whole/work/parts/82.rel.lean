/-! The relation of the class's numbers to the reference's. -/
theorem ag_eq {σ τ τ' : Int → Int} (h : Ag σ τ) (e : ∀ k : Int, 0 ≤ k → k < 109 → τ' k = τ k) : Ag σ τ' := by
  have e0 := e 0 (by omega) (by omega)
  have hb := h.1
  exact ⟨by rw [e0]; exact hb, fun k k0 k1 => by rw [e0] at k1; rw [e k k0 (by omega)]; exact h.2 k k0 k1⟩
theorem iv_eq {τ τ' : Int → Int} (h : Iv τ) (e : ∀ k : Int, 0 ≤ k → k < 109 → τ' k = τ k) : Iv τ' := by
  have hb := (Iv_iff.mp h).1
  exact ag_I ⟨hb, fun k k0 k1 => e k k0 (by omega)⟩ h
def RH (η : Nat → Int → Int) (β : Int → Int) (dp : Int) : Prop := ∀ i : Nat, (i : Int) < dp → Ag (η i) (hst β i) ∧ Iv (hst β i)
theorem hst_in (β α : Int → Int) {b i : Int} (h : i = b) : ∀ k : Int, 0 ≤ k → k < 109 → hst (ldd β α b 109) i k = α k := fun k k0 k1 => by
  subst h
  unfold hst ldd
  rw [if_pos (by omega), show 109 * i + k - 109 * i = k by omega]
theorem hst_out (β α : Int → Int) {b i : Int} (h : i ≠ b) : ∀ k : Int, 0 ≤ k → k < 109 → hst (ldd β α b 109) i k = hst β i k := fun k k0 k1 => by
  unfold hst ldd
  rw [if_neg (by omega)]
theorem hst_sh (β : Int → Int) {i : Int} (h0 : 0 ≤ i) (h1 : i ≤ 2) : ∀ k : Int, 0 ≤ k → k < 109 → hst (sh β 327) i k = hst β (i + 1) k := fun k k0 k1 => by
  unfold hst sh
  rw [if_pos (by omega)]
  congr 1; omega
theorem rh_rec {η : Nat → Int → Int} {β : Int → Int} {dp : Int} {σ τ : Int → Int} (hR : RH η β dp) (hd : 0 ≤ dp ∧ dp ≤ 4) (h : Ag σ τ) (hI : Iv τ) : RH (kh dp (upN η dp.toNat σ)) (rcB β τ dp) (kdp dp) := by
  intro i hi
  unfold kh rcB
  unfold kdp at hi
  by_cases c : dp = 4
  · rw [if_neg (by omega), if_pos c]
    rw [if_neg (by omega)] at hi
    unfold rotN
    rw [if_pos (by omega)]
    unfold upN
    by_cases c3 : (i : Int) = 3
    · rw [if_pos (by omega)]
      exact ⟨ag_eq h (hst_in _ _ c3), iv_eq hI (hst_in _ _ c3)⟩
    · rw [if_neg (by omega)]
      have hx := hR (i + 1) (by omega)
      have e : ∀ k : Int, 0 ≤ k → k < 109 → hst (ldd (sh β 327) τ 3 109) i k = hst β ((i + 1 : Nat) : Int) k := fun k k0 k1 => by
        rw [hst_out _ _ c3 k k0 k1, hst_sh β (by omega) (by omega) k k0 k1]
        congr 1
      exact ⟨ag_eq hx.1 e, iv_eq hx.2 e⟩
  · rw [if_pos (by omega), if_neg c]
    rw [if_pos (by omega)] at hi
    unfold upN
    by_cases c3 : (i : Int) = dp
    · rw [if_pos (by omega)]
      exact ⟨ag_eq h (hst_in _ _ c3), iv_eq hI (hst_in _ _ c3)⟩
    · rw [if_neg (by omega)]
      have hx := hR i (by omega)
      exact ⟨ag_eq hx.1 (hst_out _ _ c3), iv_eq hx.2 (hst_out _ _ c3)⟩
def Rl (σ ς : Int → Int) (η : Nat → Int → Int) (dp : Int) (t qA u σB ςB β qB : Int → Int) : Prop :=
  (Ag σ σB ∧ Iv σB) ∧ (u 4 = qB 3 ∧ 0 ≤ qB 3 ∧ qB 3 ≤ 1) ∧ (0 ≤ ς 0 ∧ ς 0 ≤ 16) ∧ (qB 3 = 1 → Ag ς ςB ∧ Iv ςB) ∧ (dp = qB 5 ∧ 0 ≤ dp ∧ dp ≤ 4) ∧ RH η β dp ∧ (qA 1 = qB 7 ∧ 0 ≤ qA 1 ∧ qA 1 ≤ 60) ∧ (∀ x : Int, 0 ≤ x → x < 60 → 0 ≤ t x ∧ t x ≤ 65535) ∧ u 5 = qB 8 ∧ u 6 = qB 9
section RR
variable {σ ς : Int → Int} {η : Nat → Int → Int} {dp : Int} {t qA u σB ςB β qB : Int → Int}
theorem Rl.ag (h : Rl σ ς η dp t qA u σB ςB β qB) : Ag σ σB := h.1.1
theorem Rl.ib (h : Rl σ ς η dp t qA u σB ςB β qB) : Iv σB := h.1.2
theorem Rl.ia (h : Rl σ ς η dp t qA u σB ςB β qB) : Iv σ := ag_I h.1.1 h.1.2
theorem Rl.dd (h : Rl σ ς η dp t qA u σB ςB β qB) : 0 ≤ dp ∧ dp ≤ 4 := h.2.2.2.2.1.2
theorem Rl.q5 (h : Rl σ ς η dp t qA u σB ςB β qB) : qB 5 = dp := h.2.2.2.2.1.1.symm
theorem Rl.b5 (h : Rl σ ς η dp t qA u σB ςB β qB) : 0 ≤ qB 5 ∧ qB 5 ≤ 4 := by rw [h.q5]; exact h.dd
theorem Rl.q7 (h : Rl σ ς η dp t qA u σB ςB β qB) : qB 7 = qA 1 := h.2.2.2.2.2.2.1.1.symm
theorem Rl.b1 (h : Rl σ ς η dp t qA u σB ςB β qB) : 0 ≤ qA 1 ∧ qA 1 ≤ 60 := h.2.2.2.2.2.2.1.2
theorem Rl.b7 (h : Rl σ ς η dp t qA u σB ςB β qB) : 0 ≤ qB 7 ∧ qB 7 ≤ 60 := by rw [h.q7]; exact h.b1
theorem Rl.tx (h : Rl σ ς η dp t qA u σB ςB β qB) : ∀ x : Int, 0 ≤ x → x < 60 → 0 ≤ t x ∧ t x ≤ 65535 := h.2.2.2.2.2.2.2.1
theorem Rl.hi (h : Rl σ ς η dp t qA u σB ςB β qB) : RH η β dp := h.2.2.2.2.2.1
theorem rcQ_n (q : Int → Int) {k : Int} (h : k ≠ 5) : rcQ q k = q k := up_n _ _ h
theorem rcQ_5 (q : Int → Int) : rcQ q 5 = if q 5 = 4 then 4 else q 5 + 1 := up_s _ _ _
/-- the state changes, the text and the rest stay -/
theorem Rl.st (h : Rl σ ς η dp t qA u σB ςB β qB) {σ' σB' : Int → Int} (h1 : Ag σ' σB') (h2 : Iv σB') : Rl σ' ς η dp t qA u σB' ςB β qB := ⟨⟨h1, h2⟩, h.2⟩
/-- an act that records -/
theorem Rl.rec (h : Rl σ ς η dp t qA u σB ςB β qB) {σ' σB' : Int → Int} (h1 : Ag σ' σB') (h2 : Iv σB') : Rl σ' ς (kh dp (upN η dp.toNat σ)) (kdp dp) t qA u σB' ςB (rcB β σB (qB 5)) (rcQ qB) := by
  have hx := h
  obtain ⟨-, a, b, c, d, e, f, g, i, j⟩ := h
  refine ⟨⟨h1, h2⟩, ?_, b, ?_, ?_, ?_, ?_, g, ?_, ?_⟩
  · rw [rcQ_n _ (by omega)]; exact a
  · rw [rcQ_n _ (by omega)]; exact c
  · rw [rcQ_5, ← d.1]; exact ⟨by unfold kdp; split <;> split <;> omega, kdp_b d.2⟩
  · rw [← d.1]; exact rh_rec e d.2 hx.1.1 hx.1.2
  · rw [rcQ_n _ (by omega)]; exact f
  · rw [rcQ_n _ (by omega)]; exact i
  · rw [rcQ_n _ (by omega)]; exact j
/-- an act by what it answers -/
theorem Rl.act (h : Rl σ ς η dp t qA u σB ςB β qB) {σ' σB' : Int → Int} {v : Int} (h1 : Ag σ' σB') (h2 : Iv σB') : Rl σ' ς (rcH v dp (upN η dp.toNat σ)) (rcP v dp) t qA u σB' ςB (if 0 ≤ v then rcB β σB (qB 5) else β) (if 0 ≤ v then rcQ qB else qB) := by
  unfold rcH rcP
  by_cases c : 0 ≤ v
  · rw [if_pos c, if_pos c, if_pos c, if_pos c]; exact h.rec h1 h2
  · rw [if_neg c, if_neg c, if_neg c, if_neg c]
    have := h.st h1 h2
    unfold Rl RH at this ⊢
    obtain ⟨a0, a, b, c', d, e, f⟩ := this
    refine ⟨a0, a, b, c', d, fun i hi => ?_, f⟩
    have := e i hi
    unfold upN
    rw [if_neg (by omega)]; exact this
end RR
