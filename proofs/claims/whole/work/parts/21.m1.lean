def rX4_in : Room := { frames := 0, cells := 0, slots := 0, locals := 0 }
theorem fX4_in : Fc yX4_in wsX4_in rX4_in cX4_in 3 (some .boolean) 3 := ⟨⟨_, rfl⟩, rfl, rfl, by decide +kernel, by decide +kernel, by decide +kernel⟩
set_option maxHeartbeats 4000000 in
set_option maxRecDepth 10000 in
theorem kX4_in (l : Launch) (D : va_G) (cI cC cS : ClassId) (v lo hi : Int) (b1 : Bd v) (b2 : Bd lo) (b3 : Bd hi) : Ki l yX4_in wsX4_in rX4_in D (tz cI cC cS) [.int (jj v), .int (jj lo), .int (jj hi)] ([]) (bI (lo ≤ v ∧ v ≤ hi)) ([]) := by
  refine q_entry (cc := cX4_in) (nL := 3) (ret := (some .boolean)) (by decide) ⟨_, rfl⟩ (Nat.le_of_ble_eq_true rfl) ?_
  intro A pr en s m args below meth c C hin w ls hl
  have w := w
  have hl : lv_has ls 3 [(0, .int (jj v)), (1, .int (jj lo)), (2, .int (jj hi))] := hl
  refine q_iload_n C hl dX4_in_0 rfl 0 rfl ?_
  refine q_iload_n C hl dX4_in_1 rfl 1 rfl ?_
  refine q_icmp_lt (tgt := 14) C dX4_in_2 (by decide) b1 b2 (fun c1 => ?_) (fun c1 => ?_)
  · have c1 := c1
    refine q_iconst C dX4_in_14 ?_
    exact q_zret C w dX4_in_15 (by first | exact (bI_t (by omega)).symm | exact (bI_f (by omega)).symm) rfl
  · have c1 := c1
    refine q_iload_n C hl dX4_in_5 rfl 0 rfl ?_
    refine q_iload_n C hl dX4_in_6 rfl 2 rfl ?_
    refine q_icmp_gt (tgt := 14) C dX4_in_7 (by decide) b1 b3 (fun c2 => ?_) (fun c2 => ?_)
    · have c2 := c2
      refine q_iconst C dX4_in_14 ?_
      exact q_zret C w dX4_in_15 (by first | exact (bI_t (by omega)).symm | exact (bI_f (by omega)).symm) rfl
    · have c2 := c2
      refine q_iconst C dX4_in_10 ?_
      refine q_goto (tgt := 15) C dX4_in_11 (by decide) ?_
      exact q_zret C w dX4_in_15 (by first | exact (bI_t (by omega)).symm | exact (bI_f (by omega)).symm) rfl

def rX4_at : Room := { frames := 0, cells := 0, slots := 0, locals := 0 }
theorem fX4_at : Fc yX4_at wsX4_at rX4_at cX4_at 2 (some .int) 2 := ⟨⟨_, rfl⟩, rfl, rfl, by decide +kernel, by decide +kernel, by decide +kernel⟩
set_option maxHeartbeats 4000000 in
set_option maxRecDepth 10000 in
theorem kX4_at (l : Launch) (D : va_G) (cI cC cS : ClassId) (p k : Int)  : Ki l yX4_at wsX4_at rX4_at D (tz cI cC cS) [.int (jj p), .int (jj k)] ([]) (13 + 6 * p + k) ([]) := by
  refine q_entry (cc := cX4_at) (nL := 2) (ret := (some .int)) (by decide) ⟨_, rfl⟩ (Nat.le_of_ble_eq_true rfl) ?_
  intro A pr en s m args below meth c C hin w ls hl
  have w := w
  have hl : lv_has ls 2 [(0, .int (jj p)), (1, .int (jj k))] := hl
  refine q_bipush C dX4_at_0 (by decide) ?_
  refine q_bipush C dX4_at_2 (by decide) ?_
  refine q_iload_n C hl dX4_at_4 rfl 0 rfl ?_
  refine q_imul C dX4_at_5 ?_
  refine q_iadd C dX4_at_6 ?_
  refine q_iload_n C hl dX4_at_7 rfl 1 rfl ?_
  refine q_iadd C dX4_at_8 ?_
  exact q_iret C w dX4_at_9 (by first | rfl | omega) rfl

def rX4_of : Room := { frames := 1, cells := 0, slots := 0, locals := 21 }
theorem fX4_of : Fc yX4_of wsX4_of rX4_of cX4_of 3 (some .int) 2 := ⟨⟨_, rfl⟩, rfl, rfl, by decide +kernel, by decide +kernel, by decide +kernel⟩
set_option maxHeartbeats 4000000 in
set_option maxRecDepth 10000 in
theorem kX4_of (l : Launch) (D : va_G) (cI cC cS : ClassId) (h : Nat) (ad : Nat → Nat) (σ α ς β τ q : Int → Int) (p k : Int) (b1 : 0 ≤ 13 + 6 * p + k) (b2 : 13 + 6 * p + k < 109) : Ki l yX4_of wsX4_of rX4_of D (tz cI cC cS) [.ref h, .int (jj p), .int (jj k)] (mW cI h ad σ α ς β τ q) (σ (13 + 6 * p + k)) (mW cI h ad σ α ς β τ q) := by
  refine q_entry (cc := cX4_of) (nL := 3) (ret := (some .int)) (by decide) ⟨_, rfl⟩ (Nat.le_of_ble_eq_true rfl) ?_
  intro A pr en s m args below meth c C hin w ls hl
  have w := w
  have hl : lv_has ls 3 [(0, .ref h), (1, .int (jj p)), (2, .int (jj k))] := hl
  refine q_aload_n C hl dX4_of_0 rfl 0 rfl ?_
  refine q_getM C w.1 (fun w h => List.mem_cons_of_mem _ (List.mem_append_right _ h)) 0 (by decide) (List.mem_of_getElem? (i := 1) rfl) rfl dX4_of_1 ?_
  refine q_iload_n C hl dX4_of_4 rfl 1 rfl ?_
  refine q_iload_n C hl dX4_of_5 rfl 2 rfl ?_
  refine q_runi C w fr_nil (q_S (As := [.int (jj p), .int (jj k)]) (rest := [.ref (ad 0)]) C w fr_nil fX4_at gX4_of_X4_at ⟨Nat.le_of_ble_eq_true rfl, Nat.le_of_ble_eq_true rfl⟩ (kX4_at l D cI cC cS p k  _) rfl rfl hl (Nat.le_of_ble_eq_true rfl) dX4_of_6 ⟨Nat.le_refl 0, Nat.le_refl 0⟩) (fun H locs w => ?_)
  refine q_Mld C w.1 ⟨by omega, by omega⟩ dX4_of_9 ?_
  exact q_iret C w dX4_of_10 (by first | rfl | omega) rfl

def rX4_isPlace : Room := { frames := 1, cells := 0, slots := 0, locals := 22 }
theorem fX4_isPlace : Fc yX4_isPlace wsX4_isPlace rX4_isPlace cX4_isPlace 2 (some .boolean) 1 := ⟨⟨_, rfl⟩, rfl, rfl, by decide +kernel, by decide +kernel, by decide +kernel⟩
set_option maxHeartbeats 4000000 in
set_option maxRecDepth 10000 in
theorem kX4_isPlace (l : Launch) (D : va_G) (cI cC cS : ClassId) (h : Nat) (ad : Nat → Nat) (σ α ς β τ q : Int → Int) (p : Int) (b1 : Bd p) (b2 : 0 ≤ σ 0 ∧ σ 0 ≤ 16) : Ki l yX4_isPlace wsX4_isPlace rX4_isPlace D (tz cI cC cS) [.ref h, .int (jj p)] (mW cI h ad σ α ς β τ q) (bI (0 ≤ p ∧ p ≤ σ 0 - 1)) (mW cI h ad σ α ς β τ q) := by
  refine q_entry (cc := cX4_isPlace) (nL := 2) (ret := (some .boolean)) (by decide) ⟨_, rfl⟩ (Nat.le_of_ble_eq_true rfl) ?_
  intro A pr en s m args below meth c C hin w ls hl
  have w := w
  have hl : lv_has ls 2 [(0, .ref h), (1, .int (jj p))] := hl
  refine q_iload_n C hl dX4_isPlace_0 rfl 1 rfl ?_
  refine q_iconst C dX4_isPlace_1 ?_
  refine q_aload_n C hl dX4_isPlace_2 rfl 0 rfl ?_
  refine q_getM C w.1 (fun w h => List.mem_cons_of_mem _ (List.mem_append_right _ h)) 0 (by decide) (List.mem_of_getElem? (i := 1) rfl) rfl dX4_isPlace_3 ?_
  refine q_iconst C dX4_isPlace_6 ?_
  refine q_Mld C w.1 ⟨by omega, by omega⟩ dX4_isPlace_7 ?_
  refine q_iconst C dX4_isPlace_8 ?_
  refine q_isub C dX4_isPlace_9 ?_
  refine q_runi C w fr_nil (q_S (As := [.int (jj p), .int (jj 0), .int (jj ((σ 0) - 1))]) (rest := []) C w fr_nil fX4_in gX4_isPlace_X4_in ⟨Nat.le_of_ble_eq_true rfl, Nat.le_of_ble_eq_true rfl⟩ (kX4_in l D cI cC cS p 0 ((σ 0) - 1) b1 ⟨by omega, by omega⟩ ⟨by omega, by omega⟩ _) rfl rfl hl (Nat.le_of_ble_eq_true rfl) dX4_isPlace_10 ⟨Nat.le_refl 0, Nat.le_refl 0⟩) (fun H locs w => ?_)
  exact q_zret C w dX4_isPlace_13 rfl rfl

def rX4_leastOf : Room := { frames := 2, cells := 0, slots := 0, locals := 43 }
theorem fX4_leastOf : Fc yX4_leastOf wsX4_leastOf rX4_leastOf cX4_leastOf 3 (some .int) 1 := ⟨⟨_, rfl⟩, rfl, rfl, by decide +kernel, by decide +kernel, by decide +kernel⟩
set_option maxHeartbeats 4000000 in
set_option maxRecDepth 10000 in
theorem kX4_leastOf (l : Launch) (D : va_G) (cI cC cS : ClassId) (h : Nat) (ad : Nat → Nat) (σ α ς β τ q : Int → Int) (p : Int) (b1 : 0 ≤ p ∧ p < 16) (b2 : 0 ≤ σ (13 + 6 * p + 4) ∧ σ (13 + 6 * p + 4) ≤ 5) : Ki l yX4_leastOf wsX4_leastOf rX4_leastOf D (tz cI cC cS) [.ref h, .int (jj p)] (mW cI h ad σ α ς β τ q) (lst σ p) (mW cI h ad σ α ς β τ q) := by
  refine q_entry (cc := cX4_leastOf) (nL := 3) (ret := (some .int)) (by decide) ⟨_, rfl⟩ (Nat.le_of_ble_eq_true rfl) ?_
  intro A pr en s m args below meth c C hin w ls hl
  have w := w
  have hl : lv_has ls 3 [(0, .ref h), (1, .int (jj p))] := hl
  refine q_iload_n C hl dX4_leastOf_0 rfl 1 rfl ?_
  refine q_aload_n C hl dX4_leastOf_1 rfl 0 rfl ?_
  refine q_iload_n C hl dX4_leastOf_2 rfl 1 rfl ?_
  refine q_iconst C dX4_leastOf_3 ?_
  refine q_runi C w fr_all (q_V (As := [.int (jj p), .int (jj 4)]) (rest := [.int (jj p)]) C w fr_all fX4_of gX4_leastOf_X4_of rfl ⟨Nat.le_of_ble_eq_true rfl, Nat.le_of_ble_eq_true rfl⟩ (kX4_of l D cI cC cS h ad σ α ς β τ q p 4 (by omega) (by omega) _) (q0 := 0) rfl rfl rfl rfl hl (Nat.le_of_ble_eq_true rfl) dX4_leastOf_4 ⟨Nat.le_refl 0, Nat.le_refl 0⟩) (fun H locs w => ?_)
  refine q_iconst C dX4_leastOf_7 ?_
  refine q_idiv C dX4_leastOf_8 ⟨by omega, by omega⟩ ⟨by omega, by omega⟩ ?_
  refine q_isub C dX4_leastOf_9 ?_
  refine q_istore_n (lv' := [(2, .int (jj (p - ((σ (13 + 6 * p + 4)) / 2)))), (0, .ref h), (1, .int (jj p))]) C hl dX4_leastOf_10 rfl (by decide) rfl (fun ls hl => ?_)
  refine q_iload_n C hl dX4_leastOf_11 rfl 0 rfl ?_
  refine q_if_ge (tgt := 19) C dX4_leastOf_12 (by decide) ⟨by omega, by omega⟩ (fun c1 => ?_) (fun c1 => ?_)
  · have c1 := c1
    refine q_iload_n C hl dX4_leastOf_19 rfl 0 rfl ?_
    exact q_iret C w dX4_leastOf_20 (by unfold lst; omega) rfl
  · have c1 := c1
    refine q_iconst C dX4_leastOf_15 ?_
    refine q_goto (tgt := 20) C dX4_leastOf_16 (by decide) ?_
    exact q_iret C w dX4_leastOf_20 (by unfold lst; omega) rfl

def rX4_greatestOf : Room := { frames := 2, cells := 0, slots := 0, locals := 43 }
theorem fX4_greatestOf : Fc yX4_greatestOf wsX4_greatestOf rX4_greatestOf cX4_greatestOf 3 (some .int) 1 := ⟨⟨_, rfl⟩, rfl, rfl, by decide +kernel, by decide +kernel, by decide +kernel⟩
set_option maxHeartbeats 4000000 in
set_option maxRecDepth 10000 in
theorem kX4_greatestOf (l : Launch) (D : va_G) (cI cC cS : ClassId) (h : Nat) (ad : Nat → Nat) (σ α ς β τ q : Int → Int) (p : Int) (b1 : 0 ≤ p ∧ p < 16) (b2 : 1 ≤ σ (13 + 6 * p + 4) ∧ σ (13 + 6 * p + 4) ≤ 5) (b3 : 0 ≤ σ 0 ∧ σ 0 ≤ 16) : Ki l yX4_greatestOf wsX4_greatestOf rX4_greatestOf D (tz cI cC cS) [.ref h, .int (jj p)] (mW cI h ad σ α ς β τ q) (grt σ p) (mW cI h ad σ α ς β τ q) := by
  refine q_entry (cc := cX4_greatestOf) (nL := 3) (ret := (some .int)) (by decide) ⟨_, rfl⟩ (Nat.le_of_ble_eq_true rfl) ?_
  intro A pr en s m args below meth c C hin w ls hl
  have w := w
  have hl : lv_has ls 3 [(0, .ref h), (1, .int (jj p))] := hl
  refine q_iload_n C hl dX4_greatestOf_0 rfl 1 rfl ?_
  refine q_aload_n C hl dX4_greatestOf_1 rfl 0 rfl ?_
  refine q_iload_n C hl dX4_greatestOf_2 rfl 1 rfl ?_
  refine q_iconst C dX4_greatestOf_3 ?_
  refine q_runi C w fr_all (q_V (As := [.int (jj p), .int (jj 4)]) (rest := [.int (jj p)]) C w fr_all fX4_of gX4_greatestOf_X4_of rfl ⟨Nat.le_of_ble_eq_true rfl, Nat.le_of_ble_eq_true rfl⟩ (kX4_of l D cI cC cS h ad σ α ς β τ q p 4 (by omega) (by omega) _) (q0 := 0) rfl rfl rfl rfl hl (Nat.le_of_ble_eq_true rfl) dX4_greatestOf_4 ⟨Nat.le_refl 0, Nat.le_refl 0⟩) (fun H locs w => ?_)
  refine q_iconst C dX4_greatestOf_7 ?_
  refine q_isub C dX4_greatestOf_8 ?_
  refine q_iconst C dX4_greatestOf_9 ?_
  refine q_idiv C dX4_greatestOf_10 ⟨by omega, by omega⟩ ⟨by omega, by omega⟩ ?_
  refine q_iadd C dX4_greatestOf_11 ?_
  refine q_istore_n (lv' := [(2, .int (jj (p + (((σ (13 + 6 * p + 4)) - 1) / 2)))), (0, .ref h), (1, .int (jj p))]) C hl dX4_greatestOf_12 rfl (by decide) rfl (fun ls hl => ?_)
  refine q_iload_n C hl dX4_greatestOf_13 rfl 0 rfl ?_
  refine q_aload_n C hl dX4_greatestOf_14 rfl 1 rfl ?_
  refine q_getM C w.1 (fun w h => List.mem_cons_of_mem _ (List.mem_append_right _ h)) 0 (by decide) (List.mem_of_getElem? (i := 1) rfl) rfl dX4_greatestOf_15 ?_
  refine q_iconst C dX4_greatestOf_18 ?_
  refine q_Mld C w.1 ⟨by omega, by omega⟩ dX4_greatestOf_19 ?_
  refine q_icmp_ge (tgt := 27) C dX4_greatestOf_20 (by decide) ⟨by omega, by omega⟩ ⟨by omega, by omega⟩ (fun c1 => ?_) (fun c1 => ?_)
  · have c1 := c1
    refine q_aload_n C hl dX4_greatestOf_27 rfl 1 rfl ?_
    refine q_getM C w.1 (fun w h => List.mem_cons_of_mem _ (List.mem_append_right _ h)) 0 (by decide) (List.mem_of_getElem? (i := 1) rfl) rfl dX4_greatestOf_28 ?_
    refine q_iconst C dX4_greatestOf_31 ?_
    refine q_Mld C w.1 ⟨by omega, by omega⟩ dX4_greatestOf_32 ?_
    refine q_iconst C dX4_greatestOf_33 ?_
    refine q_isub C dX4_greatestOf_34 ?_
    exact q_iret C w dX4_greatestOf_35 (by unfold grt; omega) rfl
  · have c1 := c1
    refine q_iload_n C hl dX4_greatestOf_23 rfl 0 rfl ?_
    refine q_goto (tgt := 35) C dX4_greatestOf_24 (by decide) ?_
    exact q_iret C w dX4_greatestOf_35 (by unfold grt; omega) rfl
