/-! an act by three numbers -/
def acU (σ : Int → Int) (kd a b : Int) : Int := if kd ≤ 4 then comu σ (8 + lowv a 300) (lowv b 40) (lowv (shw b) 7) else if kd = 5 then levu σ (lowv a (σ 0 + 1)) else if kd = 6 then ltu σ (lowv a (σ 0 + 1)) else if kd ≤ 9 then swu σ (lowv a (σ 0 + 1)) else if kd = 10 then setu σ (lowv a 4) (lowv b 20) else if kd = 11 then seu σ else if kd = 12 then pu2 σ (lowv a 9) else guA σ (1 + lowv a 60) (lowv b 3)
def acV (σ : Int → Int) (kd a b : Int) : Int → Int := if kd ≤ 4 then comW σ (8 + lowv a 300) (lowv b 40) (lowv (shw b) 7) else if kd = 5 then levW σ (lowv a (σ 0 + 1)) else if kd = 6 then ltv σ (lowv a (σ 0 + 1)) else if kd ≤ 9 then swv σ (lowv a (σ 0 + 1)) else if kd = 10 then setv σ (lowv a 4) (lowv b 20) else if kd = 11 then sevW σ else if kd = 12 then pvW σ (lowv a 9) else guW σ (1 + lowv a 60) (lowv b 3)
theorem comu_b {σ : Int → Int} (h : Iv σ) (pa co wi : Int) : -3 ≤ comu σ pa co wi ∧ comu σ pa co wi ≤ 16 := by
  have := (Iv_iff.mp h).1
  unfold comu; (repeat' split) <;> omega
theorem levu_b {σ : Int → Int} (h : Iv σ) (p : Int) : -1 ≤ levu σ p ∧ levu σ p ≤ 999 := by
  obtain ⟨b, f, g⟩ := Iv_iff.mp h
  unfold levu
  split
  · next c => have := (f p c.1 (by omega)).1.2.1; omega
  · omega
theorem ltu_b {σ : Int → Int} (h : Iv σ) (p : Int) : -1 ≤ ltu σ p ∧ ltu σ p ≤ 200 := by
  obtain ⟨b, f, g⟩ := Iv_iff.mp h
  unfold ltu
  split
  · next c => have := (f (p + 1) (by omega) (by omega)).1.2.2.2.2; omega
  · omega
theorem setu_b {σ : Int → Int} (h : Iv σ) (wh v : Int) : -5 ≤ setu σ wh v ∧ setu σ wh v ≤ 99 := by
  obtain ⟨b, f, g⟩ := Iv_iff.mp h
  unfold setu
  by_cases c : 0 ≤ wh ∧ wh ≤ 2
  · have := stg_b (σ := σ) g.2.2.1 g.2.2.2.1 g.2.2.2.2 c.1 c.2
    (repeat' split) <;> omega
  · rw [if_neg c]; omega
theorem acU_b {σ : Int → Int} (h : Iv σ) (kd a b : Int) : -13 ≤ acU σ kd a b ∧ acU σ kd a b ≤ 9999 := by
  have h1 := comu_b h (8 + lowv a 300) (lowv b 40) (lowv (shw b) 7)
  have h2 := levu_b h (lowv a (σ 0 + 1))
  have h3 := ltu_b h (lowv a (σ 0 + 1))
  have h4 := swu_b h (lowv a (σ 0 + 1))
  have h5 := setu_b h (lowv a 4) (lowv b 20)
  have h6 := seu_b h
  have h7 := pu2_b h (lowv a 9)
  have h8 := guA_b h (1 + lowv a 60) (lowv b 3)
  unfold acU
  (repeat' split) <;> omega
theorem acV_J {σ : Int → Int} (h : Jv σ) (kd a b : Int) : Jv (acV σ kd a b) ∧ Far σ (acV σ kd a b) := by
  unfold acV
  split
  · exact com_J h _ _ _
  split
  · exact lev_J h _
  split
  · exact lt_J h _
  split
  · exact sw_J h _
  split
  · exact set_J h _ _
  split
  · exact sev_J h
  split
  · exact pv_J h _
  · exact gu_J h _ _
theorem acU_11 {σ : Int → Int} (h : Iv σ) (a b : Int) : acU σ 11 a b = pyu σ 1 := by
  have e : acU σ 11 a b = seu σ := by
    unfold acU
    rw [if_neg (by omega), if_neg (by omega), if_neg (by omega), if_neg (by omega), if_neg (by omega), if_pos rfl]
  rw [e]
  by_cases c : σ 0 = 0
  · rw [pyu_e c 1 (by omega)]; exact if_pos c
  · rw [(pyu_0 h c).2.1]; exact if_neg c
