/-! A State's rows: gaps, exchanges, copies. -/
def cgp (f : Int → Int) (p : Int) : Int → Int := fun i => if p ≤ i ∧ i < 15 then f (i + 1) else f i
def xcr (f : Int → Int) (p : Int) : Int → Int := up (up f p (f (p + 1))) (p + 1) (f p)
theorem ac_cpy (f g : Int → Int) {sp dp n : Int} (h1 : 0 ≤ sp ∧ sp ≤ 1000) (h2 : 0 ≤ dp ∧ dp ≤ 1000) (h3 : 0 ≤ n ∧ n ≤ 1000) : va_cpy (ac f) (ac g) (jj sp).toNatClampNeg (jj dp).toNatClampNeg (jj n).toNatClampNeg = ac (fun i => if dp ≤ i ∧ i < dp + n then f (sp + (i - dp)) else g i) := by
  funext k
  have e1 := jj_cl (i := sp) h1.1 (by omega)
  have e2 := jj_cl (i := dp) h2.1 (by omega)
  have e3 := jj_cl (i := n) h3.1 (by omega)
  unfold va_cpy ac
  show _ = jj (if dp ≤ (k : Int) ∧ (k : Int) < dp + n then f (sp + ((k : Int) - dp)) else g (k : Int))
  by_cases c : dp ≤ (k : Int) ∧ (k : Int) < dp + n
  · rw [if_pos (by omega), if_pos c]; congr 2; omega
  · rw [if_neg (by omega), if_neg c]
theorem fr_set {ws : va_W} {i : Nat} {x y : Nat × va_E} (h : ws[i]? = some x) : Fr ws [x] [y] (ws.set i y) := by
  induction ws generalizing i with
  | nil => simp at h
  | cons z zs ih =>
    cases i with
    | zero =>
      have hz : z = x := by simpa using h
      subst hz
      exact ⟨zs, List.Perm.refl _, List.Perm.refl _⟩
    | succ i =>
      obtain ⟨v, h1, h2⟩ := ih (i := i) (by simpa using h)
      exact ⟨z :: v, (h1.cons z).trans (List.Perm.swap x z v), (List.Perm.swap z y v).trans (h2.cons z)⟩
theorem fr_self {ws : va_W} {i : Nat} {x : Nat × va_E} (h : ws[i]? = some x) : Fr ws [x] [x] ws := by
  obtain ⟨v, h1, -⟩ := fr_set (y := x) h
  exact ⟨v, h1, h1.symm⟩
theorem fr_to {ws wc w1 ws' ws'' : va_W} (h : Fr ws wc w1 ws') (e : ws' = ws'') : Fr ws wc w1 ws'' := e ▸ h
/-- rows below m have their gap at p closed -/
def rgp (σ : Int → Int) (p m : Int) : Int → Int := fun j => if 13 + 6 * p ≤ j ∧ j < 103 ∧ (j - 13) % 6 < m then σ (j + 6) else σ j
theorem rgp_0 (σ : Int → Int) (p : Int) : rgp σ p 0 = σ := by
  funext j; unfold rgp; rw [if_neg (by omega)]
theorem rgp_lo (σ : Int → Int) {p m j : Int} (hp : 0 ≤ p) (h : j < 13) : rgp σ p m j = σ j := by
  unfold rgp; rw [if_neg (by omega)]
theorem rgp_ne (σ : Int → Int) (p : Int) {k k' : Int} (h0 : 0 ≤ k) (h1 : k < 6) (h2 : 0 ≤ k') (h3 : k' < 6) (h : k ≠ k') : rr (rgp σ p (k + 1)) k' = rr (rgp σ p k) k' := by
  funext i; unfold rr rgp
  by_cases c : 13 + 6 * p ≤ 13 + 6 * i + k' ∧ 13 + 6 * i + k' < 103 ∧ (13 + 6 * i + k' - 13) % 6 < k
  · rw [if_pos (by omega), if_pos c]
  · rw [if_neg (by omega), if_neg c]
theorem rgp_eq (σ : Int → Int) (p : Int) {k : Int} (h0 : 0 ≤ k) (h1 : k < 6) : rr (rgp σ p (k + 1)) k = cgp (rr (rgp σ p k) k) p := by
  funext i
  show (if 13 + 6 * p ≤ 13 + 6 * i + k ∧ 13 + 6 * i + k < 103 ∧ (13 + 6 * i + k - 13) % 6 < k + 1 then σ (13 + 6 * i + k + 6) else σ (13 + 6 * i + k)) = if p ≤ i ∧ i < 15 then (if 13 + 6 * p ≤ 13 + 6 * (i + 1) + k ∧ 13 + 6 * (i + 1) + k < 103 ∧ (13 + 6 * (i + 1) + k - 13) % 6 < k then σ (13 + 6 * (i + 1) + k + 6) else σ (13 + 6 * (i + 1) + k)) else (if 13 + 6 * p ≤ 13 + 6 * i + k ∧ 13 + 6 * i + k < 103 ∧ (13 + 6 * i + k - 13) % 6 < k then σ (13 + 6 * i + k + 6) else σ (13 + 6 * i + k))
  by_cases c : p ≤ i ∧ i < 15
  · rw [if_pos c, if_pos (by omega), if_neg (by omega)]; congr 1; omega
  · rw [if_neg c, if_neg (by omega), if_neg (by omega)]
theorem sFs_cong (ad : Nat → Nat) {σ σ' : Int → Int} (h : ∀ j : Int, 0 ≤ j → j < 10 → σ' j = σ j) : sFs ad σ' = sFs ad σ := by
  unfold sFs
  rw [h 0 (by omega) (by omega), h 1 (by omega) (by omega), h 2 (by omega) (by omega), h 3 (by omega) (by omega), h 4 (by omega) (by omega), h 5 (by omega) (by omega), h 6 (by omega) (by omega), h 7 (by omega) (by omega), h 8 (by omega) (by omega), h 9 (by omega) (by omega)]
theorem sg_cong {σ σ' : Int → Int} (h : ∀ j : Int, 10 ≤ j → j < 13 → σ' j = σ j) : sg σ' = sg σ := by
  funext i; unfold sg; split
  · exact h _ (by omega) (by omega)
  · rfl
theorem eg0 (cI : ClassId) (h : Nat) (ad : Nat → Nat) (σ : Int → Int) {p : Int} (hp : 0 ≤ p) : (cSt cI h ad (rgp σ p 0)).set 1 (ad 0, .inl (cI, 16, .inl (ac (cgp (rr (rgp σ p 0) 0) p)))) = cSt cI h ad (rgp σ p 1) := by
  have e1 : sFs ad (rgp σ p 1) = sFs ad (rgp σ p 0) := sFs_cong ad (fun j j0 j1 => by rw [rgp_lo σ hp (by omega), rgp_lo σ hp (by omega)])
  have e2 : sg (rgp σ p 1) = sg (rgp σ p 0) := sg_cong (fun j j0 j1 => by rw [rgp_lo σ hp (by omega), rgp_lo σ hp (by omega)])
  have e3 : rr (rgp σ p 1) 0 = cgp (rr (rgp σ p 0) 0) p := rgp_eq σ p (k := 0) (by omega) (by omega)
  have e4_1 : rr (rgp σ p 1) 1 = rr (rgp σ p 0) 1 := rgp_ne σ p (k := 0) (k' := 1) (by omega) (by omega) (by omega) (by omega) (by omega)
  have e4_2 : rr (rgp σ p 1) 2 = rr (rgp σ p 0) 2 := rgp_ne σ p (k := 0) (k' := 2) (by omega) (by omega) (by omega) (by omega) (by omega)
  have e4_3 : rr (rgp σ p 1) 3 = rr (rgp σ p 0) 3 := rgp_ne σ p (k := 0) (k' := 3) (by omega) (by omega) (by omega) (by omega) (by omega)
  have e4_4 : rr (rgp σ p 1) 4 = rr (rgp σ p 0) 4 := rgp_ne σ p (k := 0) (k' := 4) (by omega) (by omega) (by omega) (by omega) (by omega)
  have e4_5 : rr (rgp σ p 1) 5 = rr (rgp σ p 0) 5 := rgp_ne σ p (k := 0) (k' := 5) (by omega) (by omega) (by omega) (by omega) (by omega)
  unfold cSt
  rw [e1, e2, e3, e4_1, e4_2, e4_3, e4_4, e4_5]
  rfl
theorem fg0 {cI : ClassId} {h : Nat} {ad : Nat → Nat} {σ : Int → Int} {p : Int} (hp : 0 ≤ p) : Fr (cSt cI h ad (rgp σ p 0)) [(ad 0, .inl (cI, 16, .inl (ac (rr (rgp σ p 0) 0))))] [(ad 0, .inl (cI, 16, .inl (ac (cgp (rr (rgp σ p 0) 0) p))))] (cSt cI h ad (rgp σ p 1)) := fr_to (fr_set (i := 1) rfl) (eg0 cI h ad σ hp)
theorem ex0 (cI : ClassId) (h : Nat) (ad : Nat → Nat) (σ : Int → Int) {p : Int} (hp : 0 ≤ p) : (cSt cI h ad σ).set 1 (ad 0, .inl (cI, 16, .inl (ac (xcr (rr σ 0) p)))) = cSt cI h ad (xch σ p 0) := by
  have h1 := sR0 cI h ad σ p (σ (13 + 6 * (p + 1) + 0)) hp
  have h2 := sR0 cI h ad (up σ (13 + 6 * p + 0) (σ (13 + 6 * (p + 1) + 0))) (p + 1) (σ (13 + 6 * p + 0)) (by omega)
  rw [rr_eq] at h2
  unfold xch
  rw [← h2, ← h1, List.set_set]
  rfl
theorem fx0 {cI : ClassId} {h : Nat} {ad : Nat → Nat} {σ : Int → Int} {p : Int} (hp : 0 ≤ p) : Fr (cSt cI h ad σ) [(ad 0, .inl (cI, 16, .inl (ac (rr σ 0))))] [(ad 0, .inl (cI, 16, .inl (ac (xcr (rr σ 0) p))))] (cSt cI h ad (xch σ p 0)) := fr_to (fr_set (i := 1) rfl) (ex0 cI h ad σ hp)
theorem fs0 {cI : ClassId} {h : Nat} {ad : Nat → Nat} {σ : Int → Int} : Fr (cSt cI h ad σ) [(ad 0, .inl (cI, 16, .inl (ac (rr σ 0))))] [(ad 0, .inl (cI, 16, .inl (ac (rr σ 0))))] (cSt cI h ad σ) := fr_self (i := 1) rfl
theorem eg1 (cI : ClassId) (h : Nat) (ad : Nat → Nat) (σ : Int → Int) {p : Int} (hp : 0 ≤ p) : (cSt cI h ad (rgp σ p 1)).set 2 (ad 1, .inl (cI, 16, .inl (ac (cgp (rr (rgp σ p 1) 1) p)))) = cSt cI h ad (rgp σ p 2) := by
  have e1 : sFs ad (rgp σ p 2) = sFs ad (rgp σ p 1) := sFs_cong ad (fun j j0 j1 => by rw [rgp_lo σ hp (by omega), rgp_lo σ hp (by omega)])
  have e2 : sg (rgp σ p 2) = sg (rgp σ p 1) := sg_cong (fun j j0 j1 => by rw [rgp_lo σ hp (by omega), rgp_lo σ hp (by omega)])
  have e3 : rr (rgp σ p 2) 1 = cgp (rr (rgp σ p 1) 1) p := rgp_eq σ p (k := 1) (by omega) (by omega)
  have e4_0 : rr (rgp σ p 2) 0 = rr (rgp σ p 1) 0 := rgp_ne σ p (k := 1) (k' := 0) (by omega) (by omega) (by omega) (by omega) (by omega)
  have e4_2 : rr (rgp σ p 2) 2 = rr (rgp σ p 1) 2 := rgp_ne σ p (k := 1) (k' := 2) (by omega) (by omega) (by omega) (by omega) (by omega)
  have e4_3 : rr (rgp σ p 2) 3 = rr (rgp σ p 1) 3 := rgp_ne σ p (k := 1) (k' := 3) (by omega) (by omega) (by omega) (by omega) (by omega)
  have e4_4 : rr (rgp σ p 2) 4 = rr (rgp σ p 1) 4 := rgp_ne σ p (k := 1) (k' := 4) (by omega) (by omega) (by omega) (by omega) (by omega)
  have e4_5 : rr (rgp σ p 2) 5 = rr (rgp σ p 1) 5 := rgp_ne σ p (k := 1) (k' := 5) (by omega) (by omega) (by omega) (by omega) (by omega)
  unfold cSt
  rw [e1, e2, e3, e4_0, e4_2, e4_3, e4_4, e4_5]
  rfl
theorem fg1 {cI : ClassId} {h : Nat} {ad : Nat → Nat} {σ : Int → Int} {p : Int} (hp : 0 ≤ p) : Fr (cSt cI h ad (rgp σ p 1)) [(ad 1, .inl (cI, 16, .inl (ac (rr (rgp σ p 1) 1))))] [(ad 1, .inl (cI, 16, .inl (ac (cgp (rr (rgp σ p 1) 1) p))))] (cSt cI h ad (rgp σ p 2)) := fr_to (fr_set (i := 2) rfl) (eg1 cI h ad σ hp)
theorem ex1 (cI : ClassId) (h : Nat) (ad : Nat → Nat) (σ : Int → Int) {p : Int} (hp : 0 ≤ p) : (cSt cI h ad σ).set 2 (ad 1, .inl (cI, 16, .inl (ac (xcr (rr σ 1) p)))) = cSt cI h ad (xch σ p 1) := by
  have h1 := sR1 cI h ad σ p (σ (13 + 6 * (p + 1) + 1)) hp
  have h2 := sR1 cI h ad (up σ (13 + 6 * p + 1) (σ (13 + 6 * (p + 1) + 1))) (p + 1) (σ (13 + 6 * p + 1)) (by omega)
  rw [rr_eq] at h2
  unfold xch
  rw [← h2, ← h1, List.set_set]
  rfl
theorem fx1 {cI : ClassId} {h : Nat} {ad : Nat → Nat} {σ : Int → Int} {p : Int} (hp : 0 ≤ p) : Fr (cSt cI h ad σ) [(ad 1, .inl (cI, 16, .inl (ac (rr σ 1))))] [(ad 1, .inl (cI, 16, .inl (ac (xcr (rr σ 1) p))))] (cSt cI h ad (xch σ p 1)) := fr_to (fr_set (i := 2) rfl) (ex1 cI h ad σ hp)
theorem fs1 {cI : ClassId} {h : Nat} {ad : Nat → Nat} {σ : Int → Int} : Fr (cSt cI h ad σ) [(ad 1, .inl (cI, 16, .inl (ac (rr σ 1))))] [(ad 1, .inl (cI, 16, .inl (ac (rr σ 1))))] (cSt cI h ad σ) := fr_self (i := 2) rfl
theorem eg2 (cI : ClassId) (h : Nat) (ad : Nat → Nat) (σ : Int → Int) {p : Int} (hp : 0 ≤ p) : (cSt cI h ad (rgp σ p 2)).set 3 (ad 2, .inl (cI, 16, .inl (ac (cgp (rr (rgp σ p 2) 2) p)))) = cSt cI h ad (rgp σ p 3) := by
  have e1 : sFs ad (rgp σ p 3) = sFs ad (rgp σ p 2) := sFs_cong ad (fun j j0 j1 => by rw [rgp_lo σ hp (by omega), rgp_lo σ hp (by omega)])
  have e2 : sg (rgp σ p 3) = sg (rgp σ p 2) := sg_cong (fun j j0 j1 => by rw [rgp_lo σ hp (by omega), rgp_lo σ hp (by omega)])
  have e3 : rr (rgp σ p 3) 2 = cgp (rr (rgp σ p 2) 2) p := rgp_eq σ p (k := 2) (by omega) (by omega)
  have e4_0 : rr (rgp σ p 3) 0 = rr (rgp σ p 2) 0 := rgp_ne σ p (k := 2) (k' := 0) (by omega) (by omega) (by omega) (by omega) (by omega)
  have e4_1 : rr (rgp σ p 3) 1 = rr (rgp σ p 2) 1 := rgp_ne σ p (k := 2) (k' := 1) (by omega) (by omega) (by omega) (by omega) (by omega)
  have e4_3 : rr (rgp σ p 3) 3 = rr (rgp σ p 2) 3 := rgp_ne σ p (k := 2) (k' := 3) (by omega) (by omega) (by omega) (by omega) (by omega)
  have e4_4 : rr (rgp σ p 3) 4 = rr (rgp σ p 2) 4 := rgp_ne σ p (k := 2) (k' := 4) (by omega) (by omega) (by omega) (by omega) (by omega)
  have e4_5 : rr (rgp σ p 3) 5 = rr (rgp σ p 2) 5 := rgp_ne σ p (k := 2) (k' := 5) (by omega) (by omega) (by omega) (by omega) (by omega)
  unfold cSt
  rw [e1, e2, e3, e4_0, e4_1, e4_3, e4_4, e4_5]
  rfl
theorem fg2 {cI : ClassId} {h : Nat} {ad : Nat → Nat} {σ : Int → Int} {p : Int} (hp : 0 ≤ p) : Fr (cSt cI h ad (rgp σ p 2)) [(ad 2, .inl (cI, 16, .inl (ac (rr (rgp σ p 2) 2))))] [(ad 2, .inl (cI, 16, .inl (ac (cgp (rr (rgp σ p 2) 2) p))))] (cSt cI h ad (rgp σ p 3)) := fr_to (fr_set (i := 3) rfl) (eg2 cI h ad σ hp)
theorem ex2 (cI : ClassId) (h : Nat) (ad : Nat → Nat) (σ : Int → Int) {p : Int} (hp : 0 ≤ p) : (cSt cI h ad σ).set 3 (ad 2, .inl (cI, 16, .inl (ac (xcr (rr σ 2) p)))) = cSt cI h ad (xch σ p 2) := by
  have h1 := sR2 cI h ad σ p (σ (13 + 6 * (p + 1) + 2)) hp
  have h2 := sR2 cI h ad (up σ (13 + 6 * p + 2) (σ (13 + 6 * (p + 1) + 2))) (p + 1) (σ (13 + 6 * p + 2)) (by omega)
  rw [rr_eq] at h2
  unfold xch
  rw [← h2, ← h1, List.set_set]
  rfl
theorem fx2 {cI : ClassId} {h : Nat} {ad : Nat → Nat} {σ : Int → Int} {p : Int} (hp : 0 ≤ p) : Fr (cSt cI h ad σ) [(ad 2, .inl (cI, 16, .inl (ac (rr σ 2))))] [(ad 2, .inl (cI, 16, .inl (ac (xcr (rr σ 2) p))))] (cSt cI h ad (xch σ p 2)) := fr_to (fr_set (i := 3) rfl) (ex2 cI h ad σ hp)
theorem fs2 {cI : ClassId} {h : Nat} {ad : Nat → Nat} {σ : Int → Int} : Fr (cSt cI h ad σ) [(ad 2, .inl (cI, 16, .inl (ac (rr σ 2))))] [(ad 2, .inl (cI, 16, .inl (ac (rr σ 2))))] (cSt cI h ad σ) := fr_self (i := 3) rfl
theorem eg3 (cI : ClassId) (h : Nat) (ad : Nat → Nat) (σ : Int → Int) {p : Int} (hp : 0 ≤ p) : (cSt cI h ad (rgp σ p 3)).set 4 (ad 3, .inl (cI, 16, .inl (ac (cgp (rr (rgp σ p 3) 3) p)))) = cSt cI h ad (rgp σ p 4) := by
  have e1 : sFs ad (rgp σ p 4) = sFs ad (rgp σ p 3) := sFs_cong ad (fun j j0 j1 => by rw [rgp_lo σ hp (by omega), rgp_lo σ hp (by omega)])
  have e2 : sg (rgp σ p 4) = sg (rgp σ p 3) := sg_cong (fun j j0 j1 => by rw [rgp_lo σ hp (by omega), rgp_lo σ hp (by omega)])
  have e3 : rr (rgp σ p 4) 3 = cgp (rr (rgp σ p 3) 3) p := rgp_eq σ p (k := 3) (by omega) (by omega)
  have e4_0 : rr (rgp σ p 4) 0 = rr (rgp σ p 3) 0 := rgp_ne σ p (k := 3) (k' := 0) (by omega) (by omega) (by omega) (by omega) (by omega)
  have e4_1 : rr (rgp σ p 4) 1 = rr (rgp σ p 3) 1 := rgp_ne σ p (k := 3) (k' := 1) (by omega) (by omega) (by omega) (by omega) (by omega)
  have e4_2 : rr (rgp σ p 4) 2 = rr (rgp σ p 3) 2 := rgp_ne σ p (k := 3) (k' := 2) (by omega) (by omega) (by omega) (by omega) (by omega)
  have e4_4 : rr (rgp σ p 4) 4 = rr (rgp σ p 3) 4 := rgp_ne σ p (k := 3) (k' := 4) (by omega) (by omega) (by omega) (by omega) (by omega)
  have e4_5 : rr (rgp σ p 4) 5 = rr (rgp σ p 3) 5 := rgp_ne σ p (k := 3) (k' := 5) (by omega) (by omega) (by omega) (by omega) (by omega)
  unfold cSt
  rw [e1, e2, e3, e4_0, e4_1, e4_2, e4_4, e4_5]
  rfl
theorem fg3 {cI : ClassId} {h : Nat} {ad : Nat → Nat} {σ : Int → Int} {p : Int} (hp : 0 ≤ p) : Fr (cSt cI h ad (rgp σ p 3)) [(ad 3, .inl (cI, 16, .inl (ac (rr (rgp σ p 3) 3))))] [(ad 3, .inl (cI, 16, .inl (ac (cgp (rr (rgp σ p 3) 3) p))))] (cSt cI h ad (rgp σ p 4)) := fr_to (fr_set (i := 4) rfl) (eg3 cI h ad σ hp)
theorem ex3 (cI : ClassId) (h : Nat) (ad : Nat → Nat) (σ : Int → Int) {p : Int} (hp : 0 ≤ p) : (cSt cI h ad σ).set 4 (ad 3, .inl (cI, 16, .inl (ac (xcr (rr σ 3) p)))) = cSt cI h ad (xch σ p 3) := by
  have h1 := sR3 cI h ad σ p (σ (13 + 6 * (p + 1) + 3)) hp
  have h2 := sR3 cI h ad (up σ (13 + 6 * p + 3) (σ (13 + 6 * (p + 1) + 3))) (p + 1) (σ (13 + 6 * p + 3)) (by omega)
  rw [rr_eq] at h2
  unfold xch
  rw [← h2, ← h1, List.set_set]
  rfl
theorem fx3 {cI : ClassId} {h : Nat} {ad : Nat → Nat} {σ : Int → Int} {p : Int} (hp : 0 ≤ p) : Fr (cSt cI h ad σ) [(ad 3, .inl (cI, 16, .inl (ac (rr σ 3))))] [(ad 3, .inl (cI, 16, .inl (ac (xcr (rr σ 3) p))))] (cSt cI h ad (xch σ p 3)) := fr_to (fr_set (i := 4) rfl) (ex3 cI h ad σ hp)
theorem fs3 {cI : ClassId} {h : Nat} {ad : Nat → Nat} {σ : Int → Int} : Fr (cSt cI h ad σ) [(ad 3, .inl (cI, 16, .inl (ac (rr σ 3))))] [(ad 3, .inl (cI, 16, .inl (ac (rr σ 3))))] (cSt cI h ad σ) := fr_self (i := 4) rfl
theorem eg4 (cI : ClassId) (h : Nat) (ad : Nat → Nat) (σ : Int → Int) {p : Int} (hp : 0 ≤ p) : (cSt cI h ad (rgp σ p 4)).set 5 (ad 4, .inl (cI, 16, .inl (ac (cgp (rr (rgp σ p 4) 4) p)))) = cSt cI h ad (rgp σ p 5) := by
  have e1 : sFs ad (rgp σ p 5) = sFs ad (rgp σ p 4) := sFs_cong ad (fun j j0 j1 => by rw [rgp_lo σ hp (by omega), rgp_lo σ hp (by omega)])
  have e2 : sg (rgp σ p 5) = sg (rgp σ p 4) := sg_cong (fun j j0 j1 => by rw [rgp_lo σ hp (by omega), rgp_lo σ hp (by omega)])
  have e3 : rr (rgp σ p 5) 4 = cgp (rr (rgp σ p 4) 4) p := rgp_eq σ p (k := 4) (by omega) (by omega)
  have e4_0 : rr (rgp σ p 5) 0 = rr (rgp σ p 4) 0 := rgp_ne σ p (k := 4) (k' := 0) (by omega) (by omega) (by omega) (by omega) (by omega)
  have e4_1 : rr (rgp σ p 5) 1 = rr (rgp σ p 4) 1 := rgp_ne σ p (k := 4) (k' := 1) (by omega) (by omega) (by omega) (by omega) (by omega)
  have e4_2 : rr (rgp σ p 5) 2 = rr (rgp σ p 4) 2 := rgp_ne σ p (k := 4) (k' := 2) (by omega) (by omega) (by omega) (by omega) (by omega)
  have e4_3 : rr (rgp σ p 5) 3 = rr (rgp σ p 4) 3 := rgp_ne σ p (k := 4) (k' := 3) (by omega) (by omega) (by omega) (by omega) (by omega)
  have e4_5 : rr (rgp σ p 5) 5 = rr (rgp σ p 4) 5 := rgp_ne σ p (k := 4) (k' := 5) (by omega) (by omega) (by omega) (by omega) (by omega)
  unfold cSt
  rw [e1, e2, e3, e4_0, e4_1, e4_2, e4_3, e4_5]
  rfl
theorem fg4 {cI : ClassId} {h : Nat} {ad : Nat → Nat} {σ : Int → Int} {p : Int} (hp : 0 ≤ p) : Fr (cSt cI h ad (rgp σ p 4)) [(ad 4, .inl (cI, 16, .inl (ac (rr (rgp σ p 4) 4))))] [(ad 4, .inl (cI, 16, .inl (ac (cgp (rr (rgp σ p 4) 4) p))))] (cSt cI h ad (rgp σ p 5)) := fr_to (fr_set (i := 5) rfl) (eg4 cI h ad σ hp)
theorem ex4 (cI : ClassId) (h : Nat) (ad : Nat → Nat) (σ : Int → Int) {p : Int} (hp : 0 ≤ p) : (cSt cI h ad σ).set 5 (ad 4, .inl (cI, 16, .inl (ac (xcr (rr σ 4) p)))) = cSt cI h ad (xch σ p 4) := by
  have h1 := sR4 cI h ad σ p (σ (13 + 6 * (p + 1) + 4)) hp
  have h2 := sR4 cI h ad (up σ (13 + 6 * p + 4) (σ (13 + 6 * (p + 1) + 4))) (p + 1) (σ (13 + 6 * p + 4)) (by omega)
  rw [rr_eq] at h2
  unfold xch
  rw [← h2, ← h1, List.set_set]
  rfl
theorem fx4 {cI : ClassId} {h : Nat} {ad : Nat → Nat} {σ : Int → Int} {p : Int} (hp : 0 ≤ p) : Fr (cSt cI h ad σ) [(ad 4, .inl (cI, 16, .inl (ac (rr σ 4))))] [(ad 4, .inl (cI, 16, .inl (ac (xcr (rr σ 4) p))))] (cSt cI h ad (xch σ p 4)) := fr_to (fr_set (i := 5) rfl) (ex4 cI h ad σ hp)
theorem fs4 {cI : ClassId} {h : Nat} {ad : Nat → Nat} {σ : Int → Int} : Fr (cSt cI h ad σ) [(ad 4, .inl (cI, 16, .inl (ac (rr σ 4))))] [(ad 4, .inl (cI, 16, .inl (ac (rr σ 4))))] (cSt cI h ad σ) := fr_self (i := 5) rfl
theorem eg5 (cI : ClassId) (h : Nat) (ad : Nat → Nat) (σ : Int → Int) {p : Int} (hp : 0 ≤ p) : (cSt cI h ad (rgp σ p 5)).set 6 (ad 5, .inl (cI, 16, .inl (ac (cgp (rr (rgp σ p 5) 5) p)))) = cSt cI h ad (rgp σ p 6) := by
  have e1 : sFs ad (rgp σ p 6) = sFs ad (rgp σ p 5) := sFs_cong ad (fun j j0 j1 => by rw [rgp_lo σ hp (by omega), rgp_lo σ hp (by omega)])
  have e2 : sg (rgp σ p 6) = sg (rgp σ p 5) := sg_cong (fun j j0 j1 => by rw [rgp_lo σ hp (by omega), rgp_lo σ hp (by omega)])
  have e3 : rr (rgp σ p 6) 5 = cgp (rr (rgp σ p 5) 5) p := rgp_eq σ p (k := 5) (by omega) (by omega)
  have e4_0 : rr (rgp σ p 6) 0 = rr (rgp σ p 5) 0 := rgp_ne σ p (k := 5) (k' := 0) (by omega) (by omega) (by omega) (by omega) (by omega)
  have e4_1 : rr (rgp σ p 6) 1 = rr (rgp σ p 5) 1 := rgp_ne σ p (k := 5) (k' := 1) (by omega) (by omega) (by omega) (by omega) (by omega)
  have e4_2 : rr (rgp σ p 6) 2 = rr (rgp σ p 5) 2 := rgp_ne σ p (k := 5) (k' := 2) (by omega) (by omega) (by omega) (by omega) (by omega)
  have e4_3 : rr (rgp σ p 6) 3 = rr (rgp σ p 5) 3 := rgp_ne σ p (k := 5) (k' := 3) (by omega) (by omega) (by omega) (by omega) (by omega)
  have e4_4 : rr (rgp σ p 6) 4 = rr (rgp σ p 5) 4 := rgp_ne σ p (k := 5) (k' := 4) (by omega) (by omega) (by omega) (by omega) (by omega)
  unfold cSt
  rw [e1, e2, e3, e4_0, e4_1, e4_2, e4_3, e4_4]
  rfl
theorem fg5 {cI : ClassId} {h : Nat} {ad : Nat → Nat} {σ : Int → Int} {p : Int} (hp : 0 ≤ p) : Fr (cSt cI h ad (rgp σ p 5)) [(ad 5, .inl (cI, 16, .inl (ac (rr (rgp σ p 5) 5))))] [(ad 5, .inl (cI, 16, .inl (ac (cgp (rr (rgp σ p 5) 5) p))))] (cSt cI h ad (rgp σ p 6)) := fr_to (fr_set (i := 6) rfl) (eg5 cI h ad σ hp)
theorem ex5 (cI : ClassId) (h : Nat) (ad : Nat → Nat) (σ : Int → Int) {p : Int} (hp : 0 ≤ p) : (cSt cI h ad σ).set 6 (ad 5, .inl (cI, 16, .inl (ac (xcr (rr σ 5) p)))) = cSt cI h ad (xch σ p 5) := by
  have h1 := sR5 cI h ad σ p (σ (13 + 6 * (p + 1) + 5)) hp
  have h2 := sR5 cI h ad (up σ (13 + 6 * p + 5) (σ (13 + 6 * (p + 1) + 5))) (p + 1) (σ (13 + 6 * p + 5)) (by omega)
  rw [rr_eq] at h2
  unfold xch
  rw [← h2, ← h1, List.set_set]
  rfl
theorem fx5 {cI : ClassId} {h : Nat} {ad : Nat → Nat} {σ : Int → Int} {p : Int} (hp : 0 ≤ p) : Fr (cSt cI h ad σ) [(ad 5, .inl (cI, 16, .inl (ac (rr σ 5))))] [(ad 5, .inl (cI, 16, .inl (ac (xcr (rr σ 5) p))))] (cSt cI h ad (xch σ p 5)) := fr_to (fr_set (i := 6) rfl) (ex5 cI h ad σ hp)
theorem fs5 {cI : ClassId} {h : Nat} {ad : Nat → Nat} {σ : Int → Int} : Fr (cSt cI h ad σ) [(ad 5, .inl (cI, 16, .inl (ac (rr σ 5))))] [(ad 5, .inl (cI, 16, .inl (ac (rr σ 5))))] (cSt cI h ad σ) := fr_self (i := 6) rfl
/-- somebody goes: all behind come on, the last place stays as it was -/
def rmv (σ : Int → Int) (p : Int) : Int → Int := up (rgp σ p 6) 0 (rgp σ p 6 0 - 1)
theorem rmv_o : rmo rmv := fun st p h0 h1 h2 => by
  refine ⟨?_, fun k k0 k1 => ?_, fun k k0 k1 => ?_⟩
  · unfold rmv; rw [up_s, rgp_lo st h0 (by omega)]
  · unfold rmv; rw [up_n _ _ (by omega)]; unfold rgp; rw [if_neg (by omega)]
  · unfold rmv; rw [up_n _ _ (by omega)]; unfold rgp; rw [if_pos (by omega)]
theorem vP_l {D : va_G} {cl : List vw_C} {a b : va_W} {H : Heap} (h : va_P D cl (a ++ b) H) : va_P D cl a H := vP_iff.mpr (fun q hq => vP_iff.mp h q (List.mem_append_left _ hq))
theorem vP_r {D : va_G} {cl : List vw_C} {a b : va_W} {H : Heap} (h : va_P D cl (a ++ b) H) : va_P D cl b H := vP_iff.mpr (fun q hq => vP_iff.mp h q (List.mem_append_right _ hq))
/-- rows below m copied -/
def cpf (σ σ2 : Int → Int) (m : Int) : Int → Int := fun j => if 13 ≤ j ∧ j < 109 ∧ (j - 13) % 6 < m then σ2 j else σ j
theorem cpf_0 (σ σ2 : Int → Int) : cpf σ σ2 0 = σ := by funext j; unfold cpf; rw [if_neg (by omega)]
theorem cpf_lo (σ σ2 : Int → Int) {m j : Int} (h : j < 13) : cpf σ σ2 m j = σ j := by unfold cpf; rw [if_neg (by omega)]
theorem cpf_ne (σ σ2 : Int → Int) {k k' : Int} (h0 : 0 ≤ k) (h1 : k < 6) (h2 : 0 ≤ k') (h3 : k' < 6) (h : k ≠ k') : rr (cpf σ σ2 (k + 1)) k' = rr (cpf σ σ2 k) k' := by
  funext i; unfold rr cpf
  by_cases c : 13 ≤ 13 + 6 * i + k' ∧ 13 + 6 * i + k' < 109 ∧ (13 + 6 * i + k' - 13) % 6 < k
  · rw [if_pos (by omega), if_pos c]
  · rw [if_neg (by omega), if_neg c]
theorem cpf_eq (σ σ2 : Int → Int) {k : Int} (h0 : 0 ≤ k) (h1 : k < 6) : rr (cpf σ σ2 (k + 1)) k = fun i => if 0 ≤ i ∧ i < 0 + 16 then rr σ2 k (0 + (i - 0)) else rr (cpf σ σ2 k) k i := by
  funext i
  show (if 13 ≤ 13 + 6 * i + k ∧ 13 + 6 * i + k < 109 ∧ (13 + 6 * i + k - 13) % 6 < k + 1 then σ2 (13 + 6 * i + k) else σ (13 + 6 * i + k)) = if 0 ≤ i ∧ i < 0 + 16 then σ2 (13 + 6 * (0 + (i - 0)) + k) else (if 13 ≤ 13 + 6 * i + k ∧ 13 + 6 * i + k < 109 ∧ (13 + 6 * i + k - 13) % 6 < k then σ2 (13 + 6 * i + k) else σ (13 + 6 * i + k))
  by_cases c : 0 ≤ i ∧ i < 0 + 16
  · rw [if_pos (by omega), if_pos c]; congr 1; omega
  · rw [if_neg (by omega), if_neg c, if_neg (by omega)]
theorem ec0 (cI : ClassId) (h : Nat) (ad : Nat → Nat) (σ σ2 : Int → Int) : (cSt cI h ad (cpf σ σ2 0)).set 1 (ad 0, .inl (cI, 16, .inl (ac (fun i => if 0 ≤ i ∧ i < 0 + 16 then rr σ2 0 (0 + (i - 0)) else rr (cpf σ σ2 0) 0 i)))) = cSt cI h ad (cpf σ σ2 1) := by
  have e1 : sFs ad (cpf σ σ2 1) = sFs ad (cpf σ σ2 0) := sFs_cong ad (fun j j0 j1 => by rw [cpf_lo σ σ2 (by omega), cpf_lo σ σ2 (by omega)])
  have e2 : sg (cpf σ σ2 1) = sg (cpf σ σ2 0) := sg_cong (fun j j0 j1 => by rw [cpf_lo σ σ2 (by omega), cpf_lo σ σ2 (by omega)])
  have e3 := cpf_eq σ σ2 (k := 0) (by omega) (by omega)
  rw [show (0 : Int) + 1 = 1 from rfl] at e3
  have e4_1 : rr (cpf σ σ2 1) 1 = rr (cpf σ σ2 0) 1 := cpf_ne σ σ2 (k := 0) (k' := 1) (by omega) (by omega) (by omega) (by omega) (by omega)
  have e4_2 : rr (cpf σ σ2 1) 2 = rr (cpf σ σ2 0) 2 := cpf_ne σ σ2 (k := 0) (k' := 2) (by omega) (by omega) (by omega) (by omega) (by omega)
  have e4_3 : rr (cpf σ σ2 1) 3 = rr (cpf σ σ2 0) 3 := cpf_ne σ σ2 (k := 0) (k' := 3) (by omega) (by omega) (by omega) (by omega) (by omega)
  have e4_4 : rr (cpf σ σ2 1) 4 = rr (cpf σ σ2 0) 4 := cpf_ne σ σ2 (k := 0) (k' := 4) (by omega) (by omega) (by omega) (by omega) (by omega)
  have e4_5 : rr (cpf σ σ2 1) 5 = rr (cpf σ σ2 0) 5 := cpf_ne σ σ2 (k := 0) (k' := 5) (by omega) (by omega) (by omega) (by omega) (by omega)
  rw [← e3]
  unfold cSt
  rw [e1, e2, e4_1, e4_2, e4_3, e4_4, e4_5]
  rfl
theorem ec1 (cI : ClassId) (h : Nat) (ad : Nat → Nat) (σ σ2 : Int → Int) : (cSt cI h ad (cpf σ σ2 1)).set 2 (ad 1, .inl (cI, 16, .inl (ac (fun i => if 0 ≤ i ∧ i < 0 + 16 then rr σ2 1 (0 + (i - 0)) else rr (cpf σ σ2 1) 1 i)))) = cSt cI h ad (cpf σ σ2 2) := by
  have e1 : sFs ad (cpf σ σ2 2) = sFs ad (cpf σ σ2 1) := sFs_cong ad (fun j j0 j1 => by rw [cpf_lo σ σ2 (by omega), cpf_lo σ σ2 (by omega)])
  have e2 : sg (cpf σ σ2 2) = sg (cpf σ σ2 1) := sg_cong (fun j j0 j1 => by rw [cpf_lo σ σ2 (by omega), cpf_lo σ σ2 (by omega)])
  have e3 := cpf_eq σ σ2 (k := 1) (by omega) (by omega)
  rw [show (1 : Int) + 1 = 2 from rfl] at e3
  have e4_0 : rr (cpf σ σ2 2) 0 = rr (cpf σ σ2 1) 0 := cpf_ne σ σ2 (k := 1) (k' := 0) (by omega) (by omega) (by omega) (by omega) (by omega)
  have e4_2 : rr (cpf σ σ2 2) 2 = rr (cpf σ σ2 1) 2 := cpf_ne σ σ2 (k := 1) (k' := 2) (by omega) (by omega) (by omega) (by omega) (by omega)
  have e4_3 : rr (cpf σ σ2 2) 3 = rr (cpf σ σ2 1) 3 := cpf_ne σ σ2 (k := 1) (k' := 3) (by omega) (by omega) (by omega) (by omega) (by omega)
  have e4_4 : rr (cpf σ σ2 2) 4 = rr (cpf σ σ2 1) 4 := cpf_ne σ σ2 (k := 1) (k' := 4) (by omega) (by omega) (by omega) (by omega) (by omega)
  have e4_5 : rr (cpf σ σ2 2) 5 = rr (cpf σ σ2 1) 5 := cpf_ne σ σ2 (k := 1) (k' := 5) (by omega) (by omega) (by omega) (by omega) (by omega)
  rw [← e3]
  unfold cSt
  rw [e1, e2, e4_0, e4_2, e4_3, e4_4, e4_5]
  rfl
theorem ec2 (cI : ClassId) (h : Nat) (ad : Nat → Nat) (σ σ2 : Int → Int) : (cSt cI h ad (cpf σ σ2 2)).set 3 (ad 2, .inl (cI, 16, .inl (ac (fun i => if 0 ≤ i ∧ i < 0 + 16 then rr σ2 2 (0 + (i - 0)) else rr (cpf σ σ2 2) 2 i)))) = cSt cI h ad (cpf σ σ2 3) := by
  have e1 : sFs ad (cpf σ σ2 3) = sFs ad (cpf σ σ2 2) := sFs_cong ad (fun j j0 j1 => by rw [cpf_lo σ σ2 (by omega), cpf_lo σ σ2 (by omega)])
  have e2 : sg (cpf σ σ2 3) = sg (cpf σ σ2 2) := sg_cong (fun j j0 j1 => by rw [cpf_lo σ σ2 (by omega), cpf_lo σ σ2 (by omega)])
  have e3 := cpf_eq σ σ2 (k := 2) (by omega) (by omega)
  rw [show (2 : Int) + 1 = 3 from rfl] at e3
  have e4_0 : rr (cpf σ σ2 3) 0 = rr (cpf σ σ2 2) 0 := cpf_ne σ σ2 (k := 2) (k' := 0) (by omega) (by omega) (by omega) (by omega) (by omega)
  have e4_1 : rr (cpf σ σ2 3) 1 = rr (cpf σ σ2 2) 1 := cpf_ne σ σ2 (k := 2) (k' := 1) (by omega) (by omega) (by omega) (by omega) (by omega)
  have e4_3 : rr (cpf σ σ2 3) 3 = rr (cpf σ σ2 2) 3 := cpf_ne σ σ2 (k := 2) (k' := 3) (by omega) (by omega) (by omega) (by omega) (by omega)
  have e4_4 : rr (cpf σ σ2 3) 4 = rr (cpf σ σ2 2) 4 := cpf_ne σ σ2 (k := 2) (k' := 4) (by omega) (by omega) (by omega) (by omega) (by omega)
  have e4_5 : rr (cpf σ σ2 3) 5 = rr (cpf σ σ2 2) 5 := cpf_ne σ σ2 (k := 2) (k' := 5) (by omega) (by omega) (by omega) (by omega) (by omega)
  rw [← e3]
  unfold cSt
  rw [e1, e2, e4_0, e4_1, e4_3, e4_4, e4_5]
  rfl
theorem ec3 (cI : ClassId) (h : Nat) (ad : Nat → Nat) (σ σ2 : Int → Int) : (cSt cI h ad (cpf σ σ2 3)).set 4 (ad 3, .inl (cI, 16, .inl (ac (fun i => if 0 ≤ i ∧ i < 0 + 16 then rr σ2 3 (0 + (i - 0)) else rr (cpf σ σ2 3) 3 i)))) = cSt cI h ad (cpf σ σ2 4) := by
  have e1 : sFs ad (cpf σ σ2 4) = sFs ad (cpf σ σ2 3) := sFs_cong ad (fun j j0 j1 => by rw [cpf_lo σ σ2 (by omega), cpf_lo σ σ2 (by omega)])
  have e2 : sg (cpf σ σ2 4) = sg (cpf σ σ2 3) := sg_cong (fun j j0 j1 => by rw [cpf_lo σ σ2 (by omega), cpf_lo σ σ2 (by omega)])
  have e3 := cpf_eq σ σ2 (k := 3) (by omega) (by omega)
  rw [show (3 : Int) + 1 = 4 from rfl] at e3
  have e4_0 : rr (cpf σ σ2 4) 0 = rr (cpf σ σ2 3) 0 := cpf_ne σ σ2 (k := 3) (k' := 0) (by omega) (by omega) (by omega) (by omega) (by omega)
  have e4_1 : rr (cpf σ σ2 4) 1 = rr (cpf σ σ2 3) 1 := cpf_ne σ σ2 (k := 3) (k' := 1) (by omega) (by omega) (by omega) (by omega) (by omega)
  have e4_2 : rr (cpf σ σ2 4) 2 = rr (cpf σ σ2 3) 2 := cpf_ne σ σ2 (k := 3) (k' := 2) (by omega) (by omega) (by omega) (by omega) (by omega)
  have e4_4 : rr (cpf σ σ2 4) 4 = rr (cpf σ σ2 3) 4 := cpf_ne σ σ2 (k := 3) (k' := 4) (by omega) (by omega) (by omega) (by omega) (by omega)
  have e4_5 : rr (cpf σ σ2 4) 5 = rr (cpf σ σ2 3) 5 := cpf_ne σ σ2 (k := 3) (k' := 5) (by omega) (by omega) (by omega) (by omega) (by omega)
  rw [← e3]
  unfold cSt
  rw [e1, e2, e4_0, e4_1, e4_2, e4_4, e4_5]
  rfl
theorem ec4 (cI : ClassId) (h : Nat) (ad : Nat → Nat) (σ σ2 : Int → Int) : (cSt cI h ad (cpf σ σ2 4)).set 5 (ad 4, .inl (cI, 16, .inl (ac (fun i => if 0 ≤ i ∧ i < 0 + 16 then rr σ2 4 (0 + (i - 0)) else rr (cpf σ σ2 4) 4 i)))) = cSt cI h ad (cpf σ σ2 5) := by
  have e1 : sFs ad (cpf σ σ2 5) = sFs ad (cpf σ σ2 4) := sFs_cong ad (fun j j0 j1 => by rw [cpf_lo σ σ2 (by omega), cpf_lo σ σ2 (by omega)])
  have e2 : sg (cpf σ σ2 5) = sg (cpf σ σ2 4) := sg_cong (fun j j0 j1 => by rw [cpf_lo σ σ2 (by omega), cpf_lo σ σ2 (by omega)])
  have e3 := cpf_eq σ σ2 (k := 4) (by omega) (by omega)
  rw [show (4 : Int) + 1 = 5 from rfl] at e3
  have e4_0 : rr (cpf σ σ2 5) 0 = rr (cpf σ σ2 4) 0 := cpf_ne σ σ2 (k := 4) (k' := 0) (by omega) (by omega) (by omega) (by omega) (by omega)
  have e4_1 : rr (cpf σ σ2 5) 1 = rr (cpf σ σ2 4) 1 := cpf_ne σ σ2 (k := 4) (k' := 1) (by omega) (by omega) (by omega) (by omega) (by omega)
  have e4_2 : rr (cpf σ σ2 5) 2 = rr (cpf σ σ2 4) 2 := cpf_ne σ σ2 (k := 4) (k' := 2) (by omega) (by omega) (by omega) (by omega) (by omega)
  have e4_3 : rr (cpf σ σ2 5) 3 = rr (cpf σ σ2 4) 3 := cpf_ne σ σ2 (k := 4) (k' := 3) (by omega) (by omega) (by omega) (by omega) (by omega)
  have e4_5 : rr (cpf σ σ2 5) 5 = rr (cpf σ σ2 4) 5 := cpf_ne σ σ2 (k := 4) (k' := 5) (by omega) (by omega) (by omega) (by omega) (by omega)
  rw [← e3]
  unfold cSt
  rw [e1, e2, e4_0, e4_1, e4_2, e4_3, e4_5]
  rfl
theorem ec5 (cI : ClassId) (h : Nat) (ad : Nat → Nat) (σ σ2 : Int → Int) : (cSt cI h ad (cpf σ σ2 5)).set 6 (ad 5, .inl (cI, 16, .inl (ac (fun i => if 0 ≤ i ∧ i < 0 + 16 then rr σ2 5 (0 + (i - 0)) else rr (cpf σ σ2 5) 5 i)))) = cSt cI h ad (cpf σ σ2 6) := by
  have e1 : sFs ad (cpf σ σ2 6) = sFs ad (cpf σ σ2 5) := sFs_cong ad (fun j j0 j1 => by rw [cpf_lo σ σ2 (by omega), cpf_lo σ σ2 (by omega)])
  have e2 : sg (cpf σ σ2 6) = sg (cpf σ σ2 5) := sg_cong (fun j j0 j1 => by rw [cpf_lo σ σ2 (by omega), cpf_lo σ σ2 (by omega)])
  have e3 := cpf_eq σ σ2 (k := 5) (by omega) (by omega)
  rw [show (5 : Int) + 1 = 6 from rfl] at e3
  have e4_0 : rr (cpf σ σ2 6) 0 = rr (cpf σ σ2 5) 0 := cpf_ne σ σ2 (k := 5) (k' := 0) (by omega) (by omega) (by omega) (by omega) (by omega)
  have e4_1 : rr (cpf σ σ2 6) 1 = rr (cpf σ σ2 5) 1 := cpf_ne σ σ2 (k := 5) (k' := 1) (by omega) (by omega) (by omega) (by omega) (by omega)
  have e4_2 : rr (cpf σ σ2 6) 2 = rr (cpf σ σ2 5) 2 := cpf_ne σ σ2 (k := 5) (k' := 2) (by omega) (by omega) (by omega) (by omega) (by omega)
  have e4_3 : rr (cpf σ σ2 6) 3 = rr (cpf σ σ2 5) 3 := cpf_ne σ σ2 (k := 5) (k' := 3) (by omega) (by omega) (by omega) (by omega) (by omega)
  have e4_4 : rr (cpf σ σ2 6) 4 = rr (cpf σ σ2 5) 4 := cpf_ne σ σ2 (k := 5) (k' := 4) (by omega) (by omega) (by omega) (by omega) (by omega)
  rw [← e3]
  unfold cSt
  rw [e1, e2, e4_0, e4_1, e4_2, e4_3, e4_4]
  rfl
def cps (σ σ2 : Int → Int) : Int → Int := fun j => if 10 ≤ j ∧ j < 13 then σ2 j else σ j
theorem ec6 (cI : ClassId) (h : Nat) (ad : Nat → Nat) (σ σ2 : Int → Int) : (cSt cI h ad σ).set 7 (ad 6, .inl (cI, 3, .inl (ac (fun i => if 0 ≤ i ∧ i < 0 + 3 then sg σ2 (0 + (i - 0)) else sg σ i)))) = cSt cI h ad (cps σ σ2) := by
  have e1 : sFs ad (cps σ σ2) = sFs ad σ := sFs_cong ad (fun j j0 j1 => by unfold cps; rw [if_neg (by omega)])
  have e2 : sg (cps σ σ2) = fun i => if 0 ≤ i ∧ i < 0 + 3 then sg σ2 (0 + (i - 0)) else sg σ i := by
    funext i
    show (if 0 ≤ i ∧ i < 3 then (if 10 ≤ 10 + i ∧ 10 + i < 13 then σ2 (10 + i) else σ (10 + i)) else 0) = if 0 ≤ i ∧ i < 0 + 3 then (if 0 ≤ 0 + (i - 0) ∧ 0 + (i - 0) < 3 then σ2 (10 + (0 + (i - 0))) else 0) else (if 0 ≤ i ∧ i < 3 then σ (10 + i) else 0)
    by_cases c : 0 ≤ i ∧ i < 3
    · rw [if_pos c, if_pos (by omega), if_pos (by omega), if_pos (by omega)]; congr 1; omega
    · rw [if_neg c, if_neg (by omega), if_neg c]
  have er : ∀ k : Int, 0 ≤ k → ac (rr (cps σ σ2) k) = ac (rr σ k) := fun k hk => by
    funext j; unfold ac rr cps; rw [if_neg (by omega)]
  unfold cSt
  rw [e1, e2, er 0 (by omega), er 1 (by omega), er 2 (by omega), er 3 (by omega), er 4 (by omega), er 5 (by omega)]
  rfl
section QS
variable {p : Program} {l : Launch} {e : Env} {R : Room} {s : State} {m : MethodId} {args : Array Value} {below : List Frame} {meth : Method} {c : Code} {H : Heap} {locs : List Loc} {cells slots : Nat} {Q : State → Prop}
variable {cc : ByteArray} {nL : Nat} {own : String} {Ts : List Cond} {D : va_G} {tys : List (ClassId × FieldType)} {A : Nat → Prop} {ret : Option FieldType} {pc : Nat} {ls : Array Slot} {rest : List Value} {ws ws' b : va_W}
variable {cI cC cS : ClassId} {h : Nat} {ad : Nat → Nat} {σ : Int → Int}
/-- System.arraycopy over rows of ints -/
theorem q_cpy {index a0 a n0 n1 : Nat} {f g : Int → Int} {sp dp n : Int} {lv : List (Nat × Value)} (C : Cx p s m args meth c cc nL own Ts D (tz cI cC cS) A ret) (w : Wd D A s ws H locs) (hl : lv_has ls nL lv) (hlink : Cond.methodLink own index arraycopyName ∈ Ts) (hnat : Cond.native arraycopyName ∈ Ts) (hstat : Cond.static arraycopyName ∈ Ts) (hini : Cond.initialized "java/lang/System" ∈ Ts)
    (q0 q1 : Nat) (ha0 : ws[q0]? = some (a0, .inl (cI, n0, .inl (ac f)))) (ha1 : ws[q1]? = some (a, .inl (cI, n1, .inl (ac g)))) (h1 : 0 ≤ sp ∧ sp ≤ 1000) (h2 : 0 ≤ dp ∧ dp ≤ 1000) (h3 : 0 ≤ n ∧ n ≤ 1000) (h4 : sp + n ≤ n0) (h5 : dp + n ≤ n1)
    (hframes : 1 ≤ R.frames) (hlocals : (rest.map fun v => v.category).sum + (nativeFrameWords "java/lang/System" "arraycopy" 5 + 11) ≤ R.locals) (hdg : decode cc pc = .ok (.invokestatic index, 3))
    (hw : ws.set q1 (a, .inl (cI, n1, .inl (ac (fun i => if dp ≤ i ∧ i < dp + n then f (sp + (i - dp)) else g i)))) = ws')
    (kk : ∀ (H1 : Heap) (locs1 : List Loc), Wd D A s ws' H1 locs1 → W p l e R s m args below meth c H1 locs1 cells slots Q (F0 m (pc + 3) ls rest)) : W p l e R s m args below meth c H locs cells slots Q (F0 m pc ls (.int (jj n) :: .int (jj dp) :: .ref a :: .int (jj sp) :: .ref a0 :: rest)) := by
  have e1 := jj_cl (i := sp) h1.1 (by omega)
  have e2 := jj_cl (i := dp) h2.1 (by omega)
  have e3 := jj_cl (i := n) h3.1 (by omega)
  have nn : ∀ x : Int, 0 ≤ x ∧ x ≤ 1000 → ¬ jj x < 0 := fun x hx hh => by
    have := (jj_lt (a := x) (b := 0) (by omega) (by omega) (by omega) (by omega)).mp hh
    omega
  refine va_copyi C.1 C.2.1 (C.2.2.1.trans hl.1.symm) C.ho (C.ts _ hlink) (C.ts _ hnat) (C.ts _ hstat) (C.ts _ hini) C.K w.1 w.2.1 w.2.2 q0 q1 0 0 ha0 ha1 rfl rfl rfl (nn sp h1) (nn dp h2) (nn n h3) (by omega) (by omega) (fun _ _ => rfl) hframes hlocals hdg (fun H1 locs1 hP hD hS => ?_)
  rw [ac_cpy f g h1 h2 h3] at hP hD
  subst hw
  exact kk H1 locs1 ⟨hP, hD, hS⟩
theorem q_putS2 {index : Nat} {v : Int} (C : Cx p s m args meth c cc nL own Ts D tys A ret) (w : Wd D A s (cSt cI h ad σ ++ b) H locs) (hin : ∀ w ∈ wsX10, w ∈ Ts) (i : Nat) (hi : i < 10) (hlink : Cond.fieldLink own index (TX1 (7 + i)).1 (TX1 (7 + i)).2.1 (TX1 (7 + i)).2.2.1 ∈ Ts) (hfin : (TX1 (7 + i)).2.2.2 = false) (hd : parseFieldDescriptor (TX1 (7 + i)).2.2.1 = some .int) (hdg : decode cc pc = .ok (.putfield index, 3))
    (kk : ∀ (H1 : Heap) (locs1 : List Loc), Wd D A s (cSt cI h ad (up σ (i : Int) v) ++ b) H1 locs1 → W p l e R s m args below meth c H1 locs1 cells slots Q (F0 m (pc + 3) ls rest)) : W p l e R s m args below meth c H locs cells slots Q (F0 m pc ls (.int (jj v) :: .ref h :: rest)) :=
  q_put (Cn := RX1) (T := TX1) (N := 17) (ci := 1) (fs := sFs ad σ) C w hin tyX1 tyX1_ok nmX1 0 rfl rfl (7 + i) (by omega) hlink hfin hd rfl rfl (by show 7 + i < 17; omega) hdg (congrArg (fun z => z ++ b) (sPut cI h ad σ i v hi)) kk
end QS
theorem cg_eq (a : Nat) (cI : ClassId) (f : Int → Int) (p : Int) : [((a, .inl (cI, 16, .inl (ac (fun i => if p ≤ i ∧ i < p + (15 - p) then f (p + 1 + (i - p)) else f i)))) : Nat × va_E)] = [(a, .inl (cI, 16, .inl (ac (cgp f p))))] := by
  have e : (fun i : Int => if p ≤ i ∧ i < p + (15 - p) then f (p + 1 + (i - p)) else f i) = cgp f p := by
    funext i; unfold cgp
    by_cases c : p ≤ i ∧ i < 15
    · rw [if_pos (by omega), if_pos c]; congr 1; omega
    · rw [if_neg (by omega), if_neg c]
  rw [e]
theorem vD_map {A : Nat → Prop} {ws ws' : va_W} (h : ws.map (·.1) = ws'.map (·.1)) (hD : va_D A ws) : va_D A ws' := by
  rw [vD_iff] at hD ⊢
  have h1 : (ws.map (·.1)).Pairwise (fun a b => a ≠ b) := List.pairwise_map.mpr hD.1
  rw [h] at h1
  refine ⟨List.pairwise_map.mp h1, fun q hq => ?_⟩
  have h2 : q.1 ∈ ws'.map (·.1) := List.mem_map.mpr ⟨q, hq, rfl⟩
  rw [← h] at h2
  obtain ⟨q', hq', e⟩ := List.mem_map.mp h2
  rw [← e]; exact hD.2 q' hq'
theorem wd_scong {D : va_G} {A : Nat → Prop} {s : State} {cI : ClassId} {h : Nat} {ad : Nat → Nat} {σ σ' : Int → Int} {b : va_W} {H : Heap} {locs : List Loc} (e : ∀ k : Int, 0 ≤ k → k < 109 → σ k = σ' k) (w : Wd D A s (cSt cI h ad σ ++ b) H locs) : Wd D A s (cSt cI h ad σ' ++ b) H locs :=
  ⟨(cSt_cong e (vP_l w.1)).app (vP_r w.1), vD_map (by rw [List.map_append, List.map_append]; rfl) w.2.1, w.2.2⟩
/-! what the class does to a State's numbers -/
def comA (σ : Int → Int) (pa co wi : Int) : Int → Int :=
  let a2 := up σ (13 + 6 * σ 0 + 0) (σ 1)
  let a3 := up a2 (13 + 6 * σ 0 + 1) 0
  let a4 := up a3 (13 + 6 * σ 0 + 2) pa
  let a5 := up a4 (13 + 6 * σ 0 + 3) co
  let a6 := up a5 (13 + 6 * σ 0 + 4) wi
  let a7 := up a6 (13 + 6 * σ 0 + 5) 0
  let a8 := up a7 0 (a7 0 + 1)
  up a8 1 (a8 1 + 1)
def comW (σ : Int → Int) (pa co wi : Int) : Int → Int := if 0 ≤ comu σ pa co wi then comA σ pa co wi else σ
def levW (σ : Int → Int) (p : Int) : Int → Int := if isp σ p then up (rmv σ p) 2 (rmv σ p 2 + 1) else σ
def soA (σ : Int → Int) : Int → Int := rms rmv (σ 0) σ (σ 0)
def soW (σ : Int → Int) : Int → Int := up (soA σ) 3 (soA σ 3 + (σ 0 - soA σ 0))
def g8 (σ : Int → Int) (d side : Int) : Int → Int := up (gw σ d side (σ 0)) 8 (gw σ d side (σ 0) 8 + 1)
def guA (σ : Int → Int) (d side : Int) : Int := if gst d side then (if σ 0 = 0 then -5 else g8 σ d side 0 - soA (g8 σ d side) 0) else -2
def guW (σ : Int → Int) (d side : Int) : Int → Int := if gst d side ∧ σ 0 ≠ 0 then soW (g8 σ d side) else σ
def pvW (σ : Int → Int) (mi : Int) : Int → Int := if (1 ≤ mi ∧ mi ≤ 99) ∧ σ 9 + mi ≤ 99999 then dr (up σ 9 (σ 9 + mi)) mi (σ 0) else σ
def sa1 (σ : Int → Int) : Int → Int := up σ 5 (σ 5 + cpd σ)
def sa2 (σ : Int → Int) : Int → Int := up (sa1 σ) 6 (sa1 σ 6 + (srv (sa1 σ) * sa1 σ 12 - cpd σ))
def sa3 (σ : Int → Int) : Int → Int := up (sa2 σ) 4 (sa2 σ 4 + srv σ)
def rmk (σ : Int → Int) (n j : Int) : Int → Int := it (fun j st => rmv st (n - 1 - j)) σ j
theorem rmk_0 (σ : Int → Int) (n : Int) : rmk σ n 0 = σ := rfl
theorem rmk_s (σ : Int → Int) (n : Int) {j : Int} (h : 0 ≤ j) : rmk σ n (j + 1) = rmv (rmk σ n j) (n - 1 - j) := it_s _ _ h
def sevW (σ : Int → Int) : Int → Int := if σ 0 = 0 then σ else rmk (sa3 σ) (srv σ) (srv σ)
theorem rmv_0 (σ : Int → Int) (p : Int) (h0 : 0 ≤ p) : rmv σ p 0 = σ 0 - 1 := by unfold rmv; rw [up_s, rgp_lo σ h0 (by omega)]
theorem rmk_z (σ : Int → Int) {n : Int} (j : Int) (h0 : 0 ≤ j) (h1 : j ≤ n) : rmk σ n j 0 = σ 0 - j :=
  it_ind (fun j st => rmv st (n - 1 - j)) σ (fun j st => st 0 = σ 0 - j) n (by omega) (fun i st i0 i1 hx => by
    show rmv st (n - 1 - i) 0 = σ 0 - (i + 1)
    rw [rmv_0 st _ (by omega)]; omega) j h0 h1
/-! covered, as the class looks for it -/
theorem rch_pos {σ : Int → Int} {p n : Int} (hn : 0 ≤ n) : 0 < rch σ p n ↔ ∃ q : Int, 0 ≤ q ∧ q < n ∧ hit σ q p := by
  have key := it_ind (fun q a => a + bI (hit σ q p)) 0 (fun i a => 0 ≤ a ∧ (0 < a ↔ ∃ q : Int, 0 ≤ q ∧ q < i ∧ hit σ q p)) n ⟨Int.le_refl 0, ⟨fun h => absurd h (by omega), fun ⟨q, q0, q1, _⟩ => absurd q1 (by omega)⟩⟩ (fun i a i0 i1 hx => by
    show 0 ≤ a + bI (hit σ i p) ∧ (0 < a + bI (hit σ i p) ↔ ∃ q : Int, 0 ≤ q ∧ q < i + 1 ∧ hit σ q p)
    have h1 := bI_lo (hit σ i p)
    refine ⟨by omega, fun h => ?_, fun ⟨q, q0, q1, q2⟩ => ?_⟩
    · by_cases c : hit σ i p
      · exact ⟨i, i0, by omega, c⟩
      · rw [bI_f c] at h
        obtain ⟨q, q0, q1, q2⟩ := hx.2.mp (by omega)
        exact ⟨q, q0, by omega, q2⟩
    · by_cases e : q = i
      · subst e; rw [bI_t q2]; omega
      · have := hx.2.mpr ⟨q, q0, by omega, q2⟩
        omega) n hn (Int.le_refl n)
  exact key.2
abbrev cvh (σ : Int → Int) (p side q : Int) : Prop := 0 < σ (13 + 6 * q + 4) ∧ lst σ q ≤ (if side = 2 then p + 1 else p) ∧ (if side = 1 then p - 1 else p) ≤ grt σ q
theorem cov_y {σ : Int → Int} (hW : Wi σ) {p side q : Int} (q0 : 0 ≤ q) (q1 : q < σ 0) (h : cvh σ p side q) : cov σ p side := by
  have h1 : lst σ q ≤ q := by have := hW.2.2 q q0 q1; unfold lst; omega
  have h2 : q ≤ grt σ q := by unfold grt; omega
  obtain ⟨a1, a2, a3⟩ := h
  by_cases s1 : side = 1
  · rw [if_neg (by omega)] at a2; rw [if_pos s1] at a3
    by_cases c : lst σ q ≤ p - 1
    · exact Or.inr (Or.inl ⟨s1, (rch_pos hW.1).mpr ⟨q, q0, q1, a1, c, a3⟩⟩)
    · exact Or.inl ((rch_pos hW.1).mpr ⟨q, q0, q1, a1, a2, by omega⟩)
  · rw [if_neg s1] at a3
    by_cases s2 : side = 2
    · rw [if_pos s2] at a2
      by_cases c : lst σ q ≤ p
      · exact Or.inl ((rch_pos hW.1).mpr ⟨q, q0, q1, a1, c, a3⟩)
      · exact Or.inr (Or.inr ⟨s2, (rch_pos hW.1).mpr ⟨q, q0, q1, a1, a2, by omega⟩⟩)
    · rw [if_neg s2] at a2
      exact Or.inl ((rch_pos hW.1).mpr ⟨q, q0, q1, a1, a2, a3⟩)
theorem cov_no {σ : Int → Int} (hW : Wi σ) {p side : Int} (h : ∀ q : Int, 0 ≤ q → q < σ 0 → ¬ cvh σ p side q) : ¬ cov σ p side := by
  rintro (c | ⟨s1, c⟩ | ⟨s2, c⟩)
  · obtain ⟨q, q0, q1, a1, a2, a3⟩ := (rch_pos hW.1).mp c
    exact h q q0 q1 ⟨a1, by split <;> omega, by split <;> omega⟩
  · obtain ⟨q, q0, q1, a1, a2, a3⟩ := (rch_pos hW.1).mp c
    exact h q q0 q1 ⟨a1, by split <;> omega, by split <;> omega⟩
  · obtain ⟨q, q0, q1, a1, a2, a3⟩ := (rch_pos hW.1).mp c
    exact h q q0 q1 ⟨a1, by split <;> omega, by split <;> omega⟩
theorem g8_0 (σ : Int → Int) (d side : Int) : g8 σ d side 0 = σ 0 := by unfold g8; rw [up_n _ _ (by omega), gw_n σ d side _ (by omega)]
theorem g8_P {σ : Int → Int} (h : Iv σ) {d side : Int} (hd : 1 ≤ d) (hd2 : d ≤ 99) : ∀ x : Int, 0 ≤ x → x < g8 σ d side 0 → Pv (g8 σ d side) x := by
  intro x x0 x1
  rw [g8_0] at x1
  exact Pv_of (gw_P h hd hd2 x x0 x1) (fun k k0 k1 => up_n _ _ (by omega))
theorem slj_at {x : Int} (h0 : 0 ≤ x) (h1 : x ≤ 2) : slj (jj x).toNatClampNeg = slo x := by
  have := jj_cl h0 (by omega)
  unfold slj slo
  by_cases e : x = 1
  · rw [if_pos (by omega), if_pos e]
  · rw [if_neg (by omega), if_neg e]
theorem shj_at {x : Int} (h0 : 0 ≤ x) (h1 : x ≤ 2) : shj (jj x).toNatClampNeg = shi x := by
  have := jj_cl h0 (by omega)
  unfold shj shi
  by_cases e : x = 0
  · rw [if_pos (by omega), if_pos e]
  · rw [if_neg (by omega), if_neg e]
    by_cases e1 : x = 1
    · rw [if_pos (by omega), if_pos e1]
    · rw [if_neg (by omega), if_neg e1]
theorem stg_b {σ : Int → Int} (b10 : 0 ≤ σ 10 ∧ σ 10 ≤ 50) (bv : 1 ≤ σ 11 ∧ σ 11 ≤ 4) (bf : 0 ≤ σ 12 ∧ σ 12 ≤ 99) {x : Int} (h0 : 0 ≤ x) (h1 : x ≤ 2) : 0 ≤ σ (10 + x) ∧ σ (10 + x) ≤ 99 := by
  have h3 : x = 0 ∨ x = 1 ∨ x = 2 := by omega
  rcases h3 with rfl | rfl | rfl
  · exact ⟨b10.1, Int.le_trans b10.2 (by omega)⟩
  · exact ⟨Int.le_trans (by omega) bv.1, Int.le_trans bv.2 (by omega)⟩
  · exact bf
