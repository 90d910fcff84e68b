/-! The cells of a model and of a State, and their rows. -/
abbrev tz (cI cC cS : ClassId) : List (ClassId × FieldType) := [(cI, .int), (cC, .char), (cS, .object RX1)]
/-- a State: its rows, by σ: 0 to 9 the counts, 10 to 12 the settings, 13 + 6 p + k what k tells of the place p -/
def sg (σ : Int → Int) (i : Int) : Int := if 0 ≤ i ∧ i < 3 then σ (10 + i) else 0
def rr (σ : Int → Int) (k : Int) : Int → Int := fun i => σ (13 + 6 * i + k)
def sFs (ad : Nat → Nat) (σ : Int → Int) : List Value := [.ref (ad 0), .ref (ad 1), .ref (ad 2), .ref (ad 3), .ref (ad 4), .ref (ad 5), .ref (ad 6), .int (jj (σ 0)), .int (jj (σ 1)), .int (jj (σ 2)), .int (jj (σ 3)), .int (jj (σ 4)), .int (jj (σ 5)), .int (jj (σ 6)), .int (jj (σ 7)), .int (jj (σ 8)), .int (jj (σ 9))]
def cSt (cI : ClassId) (h : Nat) (ad : Nat → Nat) (σ : Int → Int) : va_W := [(h, .inr (1, sFs ad σ)), (ad 0, .inl (cI, 16, .inl (ac (rr σ 0)))), (ad 1, .inl (cI, 16, .inl (ac (rr σ 1)))), (ad 2, .inl (cI, 16, .inl (ac (rr σ 2)))), (ad 3, .inl (cI, 16, .inl (ac (rr σ 3)))), (ad 4, .inl (cI, 16, .inl (ac (rr σ 4)))), (ad 5, .inl (cI, 16, .inl (ac (rr σ 5)))), (ad 6, .inl (cI, 3, .inl (ac (sg σ))))]
/-! changes of a model's object -/
/-! changes of a State -/
theorem rr_lo (σ : Int → Int) (k : Int) {i : Int} (v : Int) (hk : 0 ≤ k) (h : i < 13) : ac (rr (up σ i v) k) = ac (rr σ k) := by
  funext j; unfold ac rr; rw [up_n]; omega
theorem sg_lo (σ : Int → Int) {i : Int} (v : Int) (h : i < 10) : sg (up σ i v) = sg σ := by
  funext j; unfold sg; split
  · rw [up_n]; omega
  · rfl
theorem sg_hi (σ : Int → Int) {i : Int} (v : Int) (h : 13 ≤ i) : sg (up σ i v) = sg σ := by
  funext j; unfold sg; split
  · rw [up_n]; omega
  · rfl
theorem sg_up (σ : Int → Int) {i : Int} (v : Int) (h0 : 0 ≤ i) (h : i < 3) : sg (up σ (10 + i) v) = up (sg σ) i v := by
  funext j; show (if 0 ≤ j ∧ j < 3 then up σ (10 + i) v (10 + j) else 0) = if j = i then v else (if 0 ≤ j ∧ j < 3 then σ (10 + j) else 0)
  unfold up
  by_cases e : j = i
  · rw [if_pos (by omega), if_pos (by omega), if_pos e]
  · rw [if_neg (show ¬ (10 + j = 10 + i) by omega), if_neg e]
theorem rr_ne (σ : Int → Int) {k k' : Int} (p v : Int) (h0 : 0 ≤ k) (h1 : k < 6) (h2 : 0 ≤ k') (h3 : k' < 6) (hne : k ≠ k') : rr (up σ (13 + 6 * p + k) v) k' = rr σ k' := by
  funext j; unfold rr; rw [up_n]; omega
theorem rr_eq (σ : Int → Int) (k p v : Int) : rr (up σ (13 + 6 * p + k) v) k = up (rr σ k) p v := by
  funext j; unfold rr up
  by_cases e : j = p
  · rw [if_pos (by omega), if_pos e]
  · rw [if_neg (by omega), if_neg e]
theorem sFs_hi (ad : Nat → Nat) (σ : Int → Int) {i : Int} (v : Int) (h : 10 ≤ i) : sFs ad (up σ i v) = sFs ad σ := by
  unfold sFs
  rw [up_n σ v (show (0:Int) ≠ i by omega), up_n σ v (show (1:Int) ≠ i by omega), up_n σ v (show (2:Int) ≠ i by omega), up_n σ v (show (3:Int) ≠ i by omega), up_n σ v (show (4:Int) ≠ i by omega), up_n σ v (show (5:Int) ≠ i by omega), up_n σ v (show (6:Int) ≠ i by omega), up_n σ v (show (7:Int) ≠ i by omega), up_n σ v (show (8:Int) ≠ i by omega), up_n σ v (show (9:Int) ≠ i by omega)]
theorem sR0 (cI : ClassId) (h : Nat) (ad : Nat → Nat) (σ : Int → Int) (p v : Int) (hp : 0 ≤ p) : (cSt cI h ad σ).set 1 (ad 0, .inl (cI, 16, .inl (ac (up (rr σ 0) p v)))) = cSt cI h ad (up σ (13 + 6 * p + 0) v) := by
  unfold cSt
  rw [sFs_hi ad σ v (by omega), sg_hi σ v (by omega), rr_eq, rr_ne σ p v (by omega) (by omega) (k' := 1) (by omega) (by omega) (by omega), rr_ne σ p v (by omega) (by omega) (k' := 2) (by omega) (by omega) (by omega), rr_ne σ p v (by omega) (by omega) (k' := 3) (by omega) (by omega) (by omega), rr_ne σ p v (by omega) (by omega) (k' := 4) (by omega) (by omega) (by omega), rr_ne σ p v (by omega) (by omega) (k' := 5) (by omega) (by omega) (by omega)]
  rfl
theorem sR1 (cI : ClassId) (h : Nat) (ad : Nat → Nat) (σ : Int → Int) (p v : Int) (hp : 0 ≤ p) : (cSt cI h ad σ).set 2 (ad 1, .inl (cI, 16, .inl (ac (up (rr σ 1) p v)))) = cSt cI h ad (up σ (13 + 6 * p + 1) v) := by
  unfold cSt
  rw [sFs_hi ad σ v (by omega), sg_hi σ v (by omega), rr_eq, rr_ne σ p v (by omega) (by omega) (k' := 0) (by omega) (by omega) (by omega), rr_ne σ p v (by omega) (by omega) (k' := 2) (by omega) (by omega) (by omega), rr_ne σ p v (by omega) (by omega) (k' := 3) (by omega) (by omega) (by omega), rr_ne σ p v (by omega) (by omega) (k' := 4) (by omega) (by omega) (by omega), rr_ne σ p v (by omega) (by omega) (k' := 5) (by omega) (by omega) (by omega)]
  rfl
theorem sR2 (cI : ClassId) (h : Nat) (ad : Nat → Nat) (σ : Int → Int) (p v : Int) (hp : 0 ≤ p) : (cSt cI h ad σ).set 3 (ad 2, .inl (cI, 16, .inl (ac (up (rr σ 2) p v)))) = cSt cI h ad (up σ (13 + 6 * p + 2) v) := by
  unfold cSt
  rw [sFs_hi ad σ v (by omega), sg_hi σ v (by omega), rr_eq, rr_ne σ p v (by omega) (by omega) (k' := 0) (by omega) (by omega) (by omega), rr_ne σ p v (by omega) (by omega) (k' := 1) (by omega) (by omega) (by omega), rr_ne σ p v (by omega) (by omega) (k' := 3) (by omega) (by omega) (by omega), rr_ne σ p v (by omega) (by omega) (k' := 4) (by omega) (by omega) (by omega), rr_ne σ p v (by omega) (by omega) (k' := 5) (by omega) (by omega) (by omega)]
  rfl
theorem sR3 (cI : ClassId) (h : Nat) (ad : Nat → Nat) (σ : Int → Int) (p v : Int) (hp : 0 ≤ p) : (cSt cI h ad σ).set 4 (ad 3, .inl (cI, 16, .inl (ac (up (rr σ 3) p v)))) = cSt cI h ad (up σ (13 + 6 * p + 3) v) := by
  unfold cSt
  rw [sFs_hi ad σ v (by omega), sg_hi σ v (by omega), rr_eq, rr_ne σ p v (by omega) (by omega) (k' := 0) (by omega) (by omega) (by omega), rr_ne σ p v (by omega) (by omega) (k' := 1) (by omega) (by omega) (by omega), rr_ne σ p v (by omega) (by omega) (k' := 2) (by omega) (by omega) (by omega), rr_ne σ p v (by omega) (by omega) (k' := 4) (by omega) (by omega) (by omega), rr_ne σ p v (by omega) (by omega) (k' := 5) (by omega) (by omega) (by omega)]
  rfl
theorem sR4 (cI : ClassId) (h : Nat) (ad : Nat → Nat) (σ : Int → Int) (p v : Int) (hp : 0 ≤ p) : (cSt cI h ad σ).set 5 (ad 4, .inl (cI, 16, .inl (ac (up (rr σ 4) p v)))) = cSt cI h ad (up σ (13 + 6 * p + 4) v) := by
  unfold cSt
  rw [sFs_hi ad σ v (by omega), sg_hi σ v (by omega), rr_eq, rr_ne σ p v (by omega) (by omega) (k' := 0) (by omega) (by omega) (by omega), rr_ne σ p v (by omega) (by omega) (k' := 1) (by omega) (by omega) (by omega), rr_ne σ p v (by omega) (by omega) (k' := 2) (by omega) (by omega) (by omega), rr_ne σ p v (by omega) (by omega) (k' := 3) (by omega) (by omega) (by omega), rr_ne σ p v (by omega) (by omega) (k' := 5) (by omega) (by omega) (by omega)]
  rfl
theorem sR5 (cI : ClassId) (h : Nat) (ad : Nat → Nat) (σ : Int → Int) (p v : Int) (hp : 0 ≤ p) : (cSt cI h ad σ).set 6 (ad 5, .inl (cI, 16, .inl (ac (up (rr σ 5) p v)))) = cSt cI h ad (up σ (13 + 6 * p + 5) v) := by
  unfold cSt
  rw [sFs_hi ad σ v (by omega), sg_hi σ v (by omega), rr_eq, rr_ne σ p v (by omega) (by omega) (k' := 0) (by omega) (by omega) (by omega), rr_ne σ p v (by omega) (by omega) (k' := 1) (by omega) (by omega) (by omega), rr_ne σ p v (by omega) (by omega) (k' := 2) (by omega) (by omega) (by omega), rr_ne σ p v (by omega) (by omega) (k' := 3) (by omega) (by omega) (by omega), rr_ne σ p v (by omega) (by omega) (k' := 4) (by omega) (by omega) (by omega)]
  rfl
theorem sR6 (cI : ClassId) (h : Nat) (ad : Nat → Nat) (σ : Int → Int) (i v : Int) (h0 : 0 ≤ i) (h3 : i < 3) : (cSt cI h ad σ).set 7 (ad 6, .inl (cI, 3, .inl (ac (up (sg σ) i v)))) = cSt cI h ad (up σ (10 + i) v) := by
  unfold cSt
  rw [sFs_hi ad σ v (by omega), sg_up σ v h0 h3, rr_lo σ 0 v (by omega) (by omega), rr_lo σ 1 v (by omega) (by omega), rr_lo σ 2 v (by omega) (by omega), rr_lo σ 3 v (by omega) (by omega), rr_lo σ 4 v (by omega) (by omega), rr_lo σ 5 v (by omega) (by omega)]
  rfl
/-- a count's change: the field 7 + i -/
theorem sPut (cI : ClassId) (h : Nat) (ad : Nat → Nat) (σ : Int → Int) (i : Nat) (v : Int) (hi : i < 10) : (cSt cI h ad σ).set 0 (h, .inr (1, (sFs ad σ).set (7 + i) (.int (jj v)))) = cSt cI h ad (up σ (i : Int) v) := by
  have e : (sFs ad σ).set (7 + i) (.int (jj v)) = sFs ad (up σ (i : Int) v) := by
    match i, hi with
    | 0, _ => simp [sFs, up]
    | 1, _ => simp [sFs, up]
    | 2, _ => simp [sFs, up]
    | 3, _ => simp [sFs, up]
    | 4, _ => simp [sFs, up]
    | 5, _ => simp [sFs, up]
    | 6, _ => simp [sFs, up]
    | 7, _ => simp [sFs, up]
    | 8, _ => simp [sFs, up]
    | 9, _ => simp [sFs, up]
  rw [e]
  unfold cSt
  rw [sg_lo σ v (by omega), rr_lo σ 0 v (by omega) (by omega), rr_lo σ 1 v (by omega) (by omega), rr_lo σ 2 v (by omega) (by omega), rr_lo σ 3 v (by omega) (by omega), rr_lo σ 4 v (by omega) (by omega), rr_lo σ 5 v (by omega) (by omega)]
  rfl
/-- a State is what its 109 numbers are -/
theorem cSt_cong {D : va_G} {cI : ClassId} {h : Nat} {ad : Nat → Nat} {σ σ' : Int → Int} {H : Heap} (e : ∀ k : Int, 0 ≤ k → k < 109 → σ k = σ' k) (hP : va_P D vwCl (cSt cI h ad σ) H) : va_P D vwCl (cSt cI h ad σ') H := by
  have P := vP_iff.mp hP
  have hf : sFs ad σ' = sFs ad σ := by
    unfold sFs
    rw [e 0 (by omega) (by omega), e 1 (by omega) (by omega), e 2 (by omega) (by omega), e 3 (by omega) (by omega), e 4 (by omega) (by omega), e 5 (by omega) (by omega), e 6 (by omega) (by omega), e 7 (by omega) (by omega), e 8 (by omega) (by omega), e 9 (by omega) (by omega)]
  refine vP_iff.mpr (fun q hq => ?_)
  simp only [cSt, List.mem_cons, List.not_mem_nil, or_false] at hq
  have hr : ∀ k : Int, 0 ≤ k → k < 6 → ∀ i : Int, 0 ≤ i → i < ((16 : Nat) : Int) → rr σ k i = rr σ' k i := fun k h0 h6 i hi hi2 => by unfold rr; exact e _ (by omega) (by omega)
  rcases hq with rfl | rfl | rfl | rfl | rfl | rfl | rfl | rfl
  · rw [hf]; exact P _ (by simp [cSt])
  · exact at_ac (hr 0 (by omega) (by omega)) (P _ (by simp [cSt]))
  · exact at_ac (hr 1 (by omega) (by omega)) (P _ (by simp [cSt]))
  · exact at_ac (hr 2 (by omega) (by omega)) (P _ (by simp [cSt]))
  · exact at_ac (hr 3 (by omega) (by omega)) (P _ (by simp [cSt]))
  · exact at_ac (hr 4 (by omega) (by omega)) (P _ (by simp [cSt]))
  · exact at_ac (hr 5 (by omega) (by omega)) (P _ (by simp [cSt]))
  · exact at_ac (f := sg σ) (g := sg σ') (fun i hi hi2 => by unfold sg; rw [if_pos (by omega), if_pos (by omega)]; exact e _ (by omega) (by omega)) (P _ (by simp [cSt]))
theorem cSt_D {A : Nat → Prop} {cI : ClassId} {h : Nat} {ad : Nat → Nat} {σ σ' : Int → Int} (hD : va_D A (cSt cI h ad σ)) : va_D A (cSt cI h ad σ') := by
  rw [vD_iff] at hD ⊢
  simp only [cSt, List.pairwise_cons, List.mem_cons, List.not_mem_nil, or_false, forall_eq_or_imp, forall_eq] at hD ⊢
  exact hD
section QW
variable {p : Program} {l : Launch} {e : Env} {R : Room} {s : State} {m : MethodId} {args : Array Value} {below : List Frame} {meth : Method} {c : Code} {H : Heap} {locs : List Loc} {cells slots : Nat} {Q : State → Prop}
variable {cc : ByteArray} {nL : Nat} {own : String} {Ts : List Cond} {D : va_G} {tys : List (ClassId × FieldType)} {A : Nat → Prop} {ret : Option FieldType} {pc : Nat} {ls : Array Slot} {rest : List Value} {ws ws' : va_W}
variable {cI cC cS : ClassId} {h : Nat} {ad : Nat → Nat} {σ α ς β τ q : Int → Int}
theorem q_getS {index : Nat} {v : Value} (C : Cx p s m args meth c cc nL own Ts D tys A ret) (hP : va_P D vwCl (cSt cI h ad σ) H) (hin : ∀ w ∈ wsX10, w ∈ Ts) (k : Nat) (hk : k < 17) (hlink : Cond.fieldLink own index (TX1 k).1 (TX1 k).2.1 (TX1 k).2.2.1 ∈ Ts) (hv : (sFs ad σ)[k]? = some v) (hdg : decode cc pc = .ok (.getfield index, 3))
    (kk : W p l e R s m args below meth c H locs cells slots Q (F0 m (pc + 3) ls (v :: rest))) : W p l e R s m args below meth c H locs cells slots Q (F0 m pc ls (.ref h :: rest)) :=
  q_get (Cn := RX1) (T := TX1) (N := 17) (ci := 1) C hP hin 0 rfl rfl k hk hlink hv hdg kk
theorem q_putS {index : Nat} {v : Int} (C : Cx p s m args meth c cc nL own Ts D tys A ret) (w : Wd D A s (cSt cI h ad σ) H locs) (hin : ∀ w ∈ wsX10, w ∈ Ts) (i : Nat) (hi : i < 10) (hlink : Cond.fieldLink own index (TX1 (7 + i)).1 (TX1 (7 + i)).2.1 (TX1 (7 + i)).2.2.1 ∈ Ts) (hfin : (TX1 (7 + i)).2.2.2 = false) (hd : parseFieldDescriptor (TX1 (7 + i)).2.2.1 = some .int) (hdg : decode cc pc = .ok (.putfield index, 3))
    (kk : ∀ (H1 : Heap) (locs1 : List Loc), Wd D A s (cSt cI h ad (up σ (i : Int) v)) H1 locs1 → W p l e R s m args below meth c H1 locs1 cells slots Q (F0 m (pc + 3) ls rest)) : W p l e R s m args below meth c H locs cells slots Q (F0 m pc ls (.int (jj v) :: .ref h :: rest)) :=
  q_put (Cn := RX1) (T := TX1) (N := 17) (ci := 1) (fs := sFs ad σ) C w hin tyX1 tyX1_ok nmX1 0 rfl rfl (7 + i) (by omega) hlink hfin hd rfl rfl (by show 7 + i < 17; omega) hdg (sPut cI h ad σ i v hi) kk
/-- a boolean's value as a field takes it -/
theorem nar_b {v : Int} (h : v = 0 ∨ v = 1) : narrow .boolean (.int (jj v)) = .int (jj v) := by
  rcases h with rfl | rfl <;> rfl
theorem nar_bI (P : Prop) [Decidable P] : narrow .boolean (.int (jj (bI P))) = .int (jj (bI P)) := nar_b (by unfold bI; split <;> omega)
/-- a State's rows -/
theorem q_Sld {p0 : Int} (C : Cx p s m args meth c cc nL own Ts D (tz cI cC cS) A ret) (hP : va_P D vwCl (cSt cI h ad σ) H) (q0 : Nat) {a : Nat} (k : Int) (ha : (cSt cI h ad σ)[q0]? = some (a, .inl (cI, 16, .inl (ac (rr σ k))))) (hi : 0 ≤ p0 ∧ p0 < 16) (hdg : decode cc pc = .ok (.iaload, 1))
    (kk : W p l e R s m args below meth c H locs cells slots Q (F0 m (pc + 1) ls (.int (jj (σ (13 + 6 * p0 + k))) :: rest))) : W p l e R s m args below meth c H locs cells slots Q (F0 m pc ls (.int (jj p0) :: .ref a :: rest)) :=
  q_iald (n := 16) (f := rr σ k) C hP q0 0 ha rfl ⟨hi.1, hi.2, by omega⟩ hdg kk
theorem q_Sst {p0 x : Int} (C : Cx p s m args meth c cc nL own Ts D (tz cI cC cS) A ret) (w : Wd D A s (cSt cI h ad σ) H locs) (q0 : Nat) {a : Nat} (k : Int) (ha : (cSt cI h ad σ)[q0]? = some (a, .inl (cI, 16, .inl (ac (rr σ k))))) (hi : 0 ≤ p0 ∧ p0 < 16) (hdg : decode cc pc = .ok (.iastore, 1))
    (hw : (cSt cI h ad σ).set q0 (a, .inl (cI, 16, .inl (ac (up (rr σ k) p0 x)))) = ws')
    (kk : ∀ (H1 : Heap) (locs1 : List Loc), Wd D A s ws' H1 locs1 → W p l e R s m args below meth c H1 locs1 cells slots Q (F0 m (pc + 1) ls rest)) : W p l e R s m args below meth c H locs cells slots Q (F0 m pc ls (.int (jj x) :: .int (jj p0) :: .ref a :: rest)) :=
  q_iast (n := 16) (f := rr σ k) C w q0 0 ha rfl ⟨hi.1, hi.2, by omega⟩ hdg hw kk
theorem q_Stld {i v : Int} (C : Cx p s m args meth c cc nL own Ts D (tz cI cC cS) A ret) (hP : va_P D vwCl (cSt cI h ad σ) H) (hi : 0 ≤ i ∧ i < 3) (hv : σ (10 + i) = v) (hdg : decode cc pc = .ok (.iaload, 1))
    (kk : W p l e R s m args below meth c H locs cells slots Q (F0 m (pc + 1) ls (.int (jj v) :: rest))) : W p l e R s m args below meth c H locs cells slots Q (F0 m pc ls (.int (jj i) :: .ref (ad 6) :: rest)) :=
  q_iald (n := 3) (f := sg σ) C hP 7 0 rfl rfl ⟨hi.1, hi.2, by omega⟩ hdg (by rw [show sg σ i = v by rw [← hv]; exact if_pos hi]; exact kk)
theorem q_Stst {i x : Int} (C : Cx p s m args meth c cc nL own Ts D (tz cI cC cS) A ret) (w : Wd D A s (cSt cI h ad σ) H locs) (hi : 0 ≤ i ∧ i < 3) (hdg : decode cc pc = .ok (.iastore, 1))
    (kk : ∀ (H1 : Heap) (locs1 : List Loc), Wd D A s (cSt cI h ad (up σ (10 + i) x)) H1 locs1 → W p l e R s m args below meth c H1 locs1 cells slots Q (F0 m (pc + 1) ls rest)) : W p l e R s m args below meth c H locs cells slots Q (F0 m pc ls (.int (jj x) :: .int (jj i) :: .ref (ad 6) :: rest)) :=
  q_iast (n := 3) (f := sg σ) C w 7 0 rfl rfl ⟨hi.1, hi.2, by omega⟩ hdg (sR6 cI h ad σ i x hi.1 hi.2) kk
end QW
