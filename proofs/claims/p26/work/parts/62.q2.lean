def rX3_recorded : Room := { frames := 1, cells := 0, slots := 0, locals := 22 }
theorem fX3_recorded : Fc yX3_recorded wsX3_recorded rX3_recorded cX3_recorded 2 (some .int) 1 := ⟨⟨_, rfl⟩, rfl, rfl, by decide +kernel, by decide +kernel, by decide +kernel⟩
set_option maxHeartbeats 4000000 in
set_option maxRecDepth 10000 in
theorem kX3_recorded (l : Launch) (D : va_G) (cI cC cS : ClassId) (h hn : Nat) (adn : Nat → Nat) (hsn : Nat) (ads : Nat → Nat) (hh har hw : Nat) (adw : Nat → Nat) (σ ς : Int → Int) (hs : Nat → Nat) (ha : Nat → Nat → Nat) (η : Nat → Int → Int) (dp : Int) (τ kd am sd q u : Int → Int) (v : Int) (b1 : Bd v) (bdp : 0 ≤ dp ∧ dp ≤ 4) : Ki l yX3_recorded wsX3_recorded rX3_recorded D (tz cI cC cS) [.ref h, .int (jj v)] (uW cI cC cS h hn adn hsn ads hh har hw adw σ ς hs ha η dp τ kd am sd q u) v (uW cI cC cS h hn adn hsn ads hh har hw adw σ ς (rcH v dp hs) (rcH v dp ha) (rcH v dp η) (rcP v dp) τ kd am sd q u) := by
  refine q_entry (cc := cX3_recorded) (nL := 2) (ret := (some .int)) (by decide) ⟨_, rfl⟩ (Nat.le_of_ble_eq_true rfl) ?_
  intro A pr en s m args below meth c C hin w ls hl
  have w := w
  have hl : lv_has ls 2 [(0, .ref h), (1, .int (jj v))] := hl
  refine q_iload_n C hl dX3_recorded_0 rfl 1 rfl ?_
  refine q_if_lt (tgt := 11) C dX3_recorded_1 (by decide) b1 (fun c1 => ?_) (fun c1 => ?_)
  · have c1 := c1
    refine q_iload_n C hl dX3_recorded_11 rfl 1 rfl ?_
    exact q_iret C w dX3_recorded_12 rfl (by unfold rcH rcP; rw [if_neg (by omega), if_neg (by omega), if_neg (by omega), if_neg (by omega)])
  · have c1 := c1
    refine q_aload_n C hl dX3_recorded_4 rfl 0 rfl ?_
    refine q_getU C w.1 (fun w h => List.mem_cons_of_mem _ (List.mem_append_left _ (List.mem_append_right _ h))) 2 (by decide) (List.mem_of_getElem? (i := 1) rfl) rfl dX3_recorded_5 ?_
    refine q_runv C w fu_h (q_V (As := []) (rest := []) C w fu_h fX0_keepDraft gX3_recorded_X0_keepDraft rfl ⟨Nat.le_of_ble_eq_true rfl, Nat.le_of_ble_eq_true rfl⟩ (kX0_keepDraft l D cI cC cS hh har hs ha η dp  (by omega) _) (q0 := 0) rfl rfl rfl rfl hl (Nat.le_of_ble_eq_true rfl) dX3_recorded_8 ⟨Nat.le_refl 0, Nat.le_refl 0⟩) (fun H locs w => ?_)
    refine q_iload_n C hl dX3_recorded_11 rfl 1 rfl ?_
    exact q_iret C w dX3_recorded_12 rfl (by unfold rcH rcP; rw [if_pos (by omega), if_pos (by omega), if_pos (by omega), if_pos (by omega)])

def rX3_come : Room := { frames := 3, cells := 0, slots := 0, locals := 102 }
theorem fX3_come : Fc yX3_come wsX3_come rX3_come cX3_come 4 (some .int) 3 := ⟨⟨_, rfl⟩, rfl, rfl, by decide +kernel, by decide +kernel, by decide +kernel⟩
set_option maxHeartbeats 4000000 in
set_option maxRecDepth 10000 in
theorem kX3_come (l : Launch) (D : va_G) (cI cC cS : ClassId) (h hn : Nat) (adn : Nat → Nat) (hsn : Nat) (ads : Nat → Nat) (hh har hw : Nat) (adw : Nat → Nat) (σ ς : Int → Int) (hs : Nat → Nat) (ha : Nat → Nat → Nat) (η : Nat → Int → Int) (dp : Int) (τ kd am sd q u : Int → Int) (pa co wi : Int) (bY : Iv σ) (bdp : 0 ≤ dp ∧ dp ≤ 4) (z_pa : -2147483648 ≤ pa ∧ pa ≤ 2147483647) (z_co : -2147483648 ≤ co ∧ co ≤ 2147483647) (z_wi : -2147483648 ≤ wi ∧ wi ≤ 2147483647) (bu : -3 ≤ comu σ pa co wi ∧ comu σ pa co wi ≤ 16) : Ki l yX3_come wsX3_come rX3_come D (tz cI cC cS) [.ref h, .int (jj pa), .int (jj co), .int (jj wi)] (uW cI cC cS h hn adn hsn ads hh har hw adw σ ς hs ha η dp τ kd am sd q u) (comu σ pa co wi) (uW cI cC cS h hn adn hsn ads hh har hw adw (comW σ pa co wi) ς (rcH (comu σ pa co wi) dp hs) (rcH (comu σ pa co wi) dp ha) (rcH (comu σ pa co wi) dp (upN η dp.toNat σ)) (rcP (comu σ pa co wi) dp) τ kd am sd q u) := by
  refine q_entry (cc := cX3_come) (nL := 4) (ret := (some .int)) (by decide) ⟨_, rfl⟩ (Nat.le_of_ble_eq_true rfl) ?_
  intro A pr en s m args below meth c C hin w ls hl
  have w := w
  have hl : lv_has ls 4 [(0, .ref h), (1, .int (jj pa)), (2, .int (jj co)), (3, .int (jj wi))] := hl
  refine q_aload_n C hl dX3_come_0 rfl 0 rfl ?_
  refine q_getU C w.1 (fun w h => List.mem_cons_of_mem _ (List.mem_append_left _ (List.mem_append_left _ (List.mem_append_right _ h)))) 2 (by decide) (List.mem_of_getElem? (i := 1) rfl) rfl dX3_come_1 ?_
  refine q_aload_n C hl dX3_come_4 rfl 0 rfl ?_
  refine q_getU C w.1 (fun w h => List.mem_cons_of_mem _ (List.mem_append_left _ (List.mem_append_left _ (List.mem_append_right _ h)))) 0 (by decide) (List.mem_of_getElem? (i := 2) rfl) rfl dX3_come_5 ?_
  refine q_runv C w fu_d (q_V (As := [.ref hn]) (rest := []) C w fu_d fX0_draft gX3_come_X0_draft rfl ⟨Nat.le_of_ble_eq_true rfl, Nat.le_of_ble_eq_true rfl⟩ (kX0_draft l D cI cC cS hh har hs ha η dp hn adn σ  (by omega) _) (q0 := 0) rfl rfl rfl rfl hl (Nat.le_of_ble_eq_true rfl) dX3_come_8 ⟨Nat.le_refl 0, Nat.le_refl 0⟩) (fun H locs w => ?_)
  refine q_aload_n C hl dX3_come_11 rfl 0 rfl ?_
  refine q_aload_n C hl dX3_come_12 rfl 0 rfl ?_
  refine q_getU C w.1 (fun w h => List.mem_cons_of_mem _ (List.mem_append_left _ (List.mem_append_left _ (List.mem_append_right _ h)))) 0 (by decide) (List.mem_of_getElem? (i := 2) rfl) rfl dX3_come_13 ?_
  refine q_iload_n C hl dX3_come_16 rfl 1 rfl ?_
  refine q_iload_n C hl dX3_come_17 rfl 2 rfl ?_
  refine q_iload_n C hl dX3_come_18 rfl 3 rfl ?_
  refine q_runi C w fu_n (q_V (As := [.int (jj pa), .int (jj co), .int (jj wi)]) (rest := [.ref h]) C w fu_n fX1_admit gX3_come_X1_admit rfl ⟨Nat.le_of_ble_eq_true rfl, Nat.le_of_ble_eq_true rfl⟩ (kX1_admit l D cI cC cS hn adn σ pa co wi (by omega) (by omega) (by omega) (by omega) _) (q0 := 0) rfl rfl rfl rfl hl (Nat.le_of_ble_eq_true rfl) dX3_come_19 ⟨Nat.le_refl 0, Nat.le_refl 0⟩) (fun H locs w => ?_)
  refine q_runi C w fr_all (q_V (As := [.int (jj (comu σ pa co wi))]) (rest := []) C w fr_all fX3_recorded gX3_come_X3_recorded rfl ⟨Nat.le_of_ble_eq_true rfl, Nat.le_of_ble_eq_true rfl⟩ (kX3_recorded l D cI cC cS h hn adn hsn ads hh har hw adw (comW σ pa co wi) ς hs ha (upN η dp.toNat σ) dp τ kd am sd q u (comu σ pa co wi) ⟨by omega, by omega⟩ (by omega) _) (q0 := 0) rfl rfl rfl rfl hl (Nat.le_of_ble_eq_true rfl) dX3_come_22 ⟨Nat.le_refl 0, Nat.le_refl 0⟩) (fun H locs w => ?_)
  exact q_iret C w dX3_come_25 (by first | rfl | omega) rfl

def rX3_leave : Room := { frames := 4, cells := 0, slots := 0, locals := 124 }
theorem fX3_leave : Fc yX3_leave wsX3_leave rX3_leave cX3_leave 2 (some .int) 1 := ⟨⟨_, rfl⟩, rfl, rfl, by decide +kernel, by decide +kernel, by decide +kernel⟩
set_option maxHeartbeats 4000000 in
set_option maxRecDepth 10000 in
theorem kX3_leave (l : Launch) (D : va_G) (cI cC cS : ClassId) (h hn : Nat) (adn : Nat → Nat) (hsn : Nat) (ads : Nat → Nat) (hh har hw : Nat) (adw : Nat → Nat) (σ ς : Int → Int) (hs : Nat → Nat) (ha : Nat → Nat → Nat) (η : Nat → Int → Int) (dp : Int) (τ kd am sd q u : Int → Int) (p : Int) (bY : Iv σ) (bdp : 0 ≤ dp ∧ dp ≤ 4) (z_p : -2147483648 ≤ p ∧ p ≤ 2147483647) (bu : -1 ≤ levu σ p ∧ levu σ p ≤ 999) : Ki l yX3_leave wsX3_leave rX3_leave D (tz cI cC cS) [.ref h, .int (jj p)] (uW cI cC cS h hn adn hsn ads hh har hw adw σ ς hs ha η dp τ kd am sd q u) (levu σ p) (uW cI cC cS h hn adn hsn ads hh har hw adw (levW σ p) ς (rcH (levu σ p) dp hs) (rcH (levu σ p) dp ha) (rcH (levu σ p) dp (upN η dp.toNat σ)) (rcP (levu σ p) dp) τ kd am sd q u) := by
  refine q_entry (cc := cX3_leave) (nL := 2) (ret := (some .int)) (by decide) ⟨_, rfl⟩ (Nat.le_of_ble_eq_true rfl) ?_
  intro A pr en s m args below meth c C hin w ls hl
  have w := w
  have hl : lv_has ls 2 [(0, .ref h), (1, .int (jj p))] := hl
  refine q_aload_n C hl dX3_leave_0 rfl 0 rfl ?_
  refine q_getU C w.1 (fun w h => List.mem_cons_of_mem _ (List.mem_append_left _ (List.mem_append_left _ (List.mem_append_right _ h)))) 2 (by decide) (List.mem_of_getElem? (i := 1) rfl) rfl dX3_leave_1 ?_
  refine q_aload_n C hl dX3_leave_4 rfl 0 rfl ?_
  refine q_getU C w.1 (fun w h => List.mem_cons_of_mem _ (List.mem_append_left _ (List.mem_append_left _ (List.mem_append_right _ h)))) 0 (by decide) (List.mem_of_getElem? (i := 2) rfl) rfl dX3_leave_5 ?_
  refine q_runv C w fu_d (q_V (As := [.ref hn]) (rest := []) C w fu_d fX0_draft gX3_leave_X0_draft rfl ⟨Nat.le_of_ble_eq_true rfl, Nat.le_of_ble_eq_true rfl⟩ (kX0_draft l D cI cC cS hh har hs ha η dp hn adn σ  (by omega) _) (q0 := 0) rfl rfl rfl rfl hl (Nat.le_of_ble_eq_true rfl) dX3_leave_8 ⟨Nat.le_refl 0, Nat.le_refl 0⟩) (fun H locs w => ?_)
  refine q_aload_n C hl dX3_leave_11 rfl 0 rfl ?_
  refine q_aload_n C hl dX3_leave_12 rfl 0 rfl ?_
  refine q_getU C w.1 (fun w h => List.mem_cons_of_mem _ (List.mem_append_left _ (List.mem_append_left _ (List.mem_append_right _ h)))) 0 (by decide) (List.mem_of_getElem? (i := 2) rfl) rfl dX3_leave_13 ?_
  refine q_iload_n C hl dX3_leave_16 rfl 1 rfl ?_
  refine q_runi C w fu_n (q_V (As := [.int (jj p)]) (rest := [.ref h]) C w fu_n fX1_dismiss gX3_leave_X1_dismiss rfl ⟨Nat.le_of_ble_eq_true rfl, Nat.le_of_ble_eq_true rfl⟩ (kX1_dismiss l D cI cC cS hn adn σ p (by omega) (by omega) _) (q0 := 0) rfl rfl rfl rfl hl (Nat.le_of_ble_eq_true rfl) dX3_leave_17 ⟨Nat.le_refl 0, Nat.le_refl 0⟩) (fun H locs w => ?_)
  refine q_runi C w fr_all (q_V (As := [.int (jj (levu σ p))]) (rest := []) C w fr_all fX3_recorded gX3_leave_X3_recorded rfl ⟨Nat.le_of_ble_eq_true rfl, Nat.le_of_ble_eq_true rfl⟩ (kX3_recorded l D cI cC cS h hn adn hsn ads hh har hw adw (levW σ p) ς hs ha (upN η dp.toNat σ) dp τ kd am sd q u (levu σ p) ⟨by omega, by omega⟩ (by omega) _) (q0 := 0) rfl rfl rfl rfl hl (Nat.le_of_ble_eq_true rfl) dX3_leave_20 ⟨Nat.le_refl 0, Nat.le_refl 0⟩) (fun H locs w => ?_)
  exact q_iret C w dX3_leave_23 (by first | rfl | omega) rfl

def rX3_letAhead : Room := { frames := 3, cells := 0, slots := 0, locals := 102 }
theorem fX3_letAhead : Fc yX3_letAhead wsX3_letAhead rX3_letAhead cX3_letAhead 2 (some .int) 1 := ⟨⟨_, rfl⟩, rfl, rfl, by decide +kernel, by decide +kernel, by decide +kernel⟩
set_option maxHeartbeats 4000000 in
set_option maxRecDepth 10000 in
theorem kX3_letAhead (l : Launch) (D : va_G) (cI cC cS : ClassId) (h hn : Nat) (adn : Nat → Nat) (hsn : Nat) (ads : Nat → Nat) (hh har hw : Nat) (adw : Nat → Nat) (σ ς : Int → Int) (hs : Nat → Nat) (ha : Nat → Nat → Nat) (η : Nat → Int → Int) (dp : Int) (τ kd am sd q u : Int → Int) (p : Int) (bY : Iv σ) (bdp : 0 ≤ dp ∧ dp ≤ 4) (z_p : -2147483648 ≤ p ∧ p ≤ 2147483647) (bu : -1 ≤ ltu σ p ∧ ltu σ p ≤ 200) : Ki l yX3_letAhead wsX3_letAhead rX3_letAhead D (tz cI cC cS) [.ref h, .int (jj p)] (uW cI cC cS h hn adn hsn ads hh har hw adw σ ς hs ha η dp τ kd am sd q u) (ltu σ p) (uW cI cC cS h hn adn hsn ads hh har hw adw (ltv σ p) ς (rcH (ltu σ p) dp hs) (rcH (ltu σ p) dp ha) (rcH (ltu σ p) dp (upN η dp.toNat σ)) (rcP (ltu σ p) dp) τ kd am sd q u) := by
  refine q_entry (cc := cX3_letAhead) (nL := 2) (ret := (some .int)) (by decide) ⟨_, rfl⟩ (Nat.le_of_ble_eq_true rfl) ?_
  intro A pr en s m args below meth c C hin w ls hl
  have w := w
  have hl : lv_has ls 2 [(0, .ref h), (1, .int (jj p))] := hl
  refine q_aload_n C hl dX3_letAhead_0 rfl 0 rfl ?_
  refine q_getU C w.1 (fun w h => List.mem_cons_of_mem _ (List.mem_append_left _ (List.mem_append_left _ (List.mem_append_right _ h)))) 2 (by decide) (List.mem_of_getElem? (i := 1) rfl) rfl dX3_letAhead_1 ?_
  refine q_aload_n C hl dX3_letAhead_4 rfl 0 rfl ?_
  refine q_getU C w.1 (fun w h => List.mem_cons_of_mem _ (List.mem_append_left _ (List.mem_append_left _ (List.mem_append_right _ h)))) 0 (by decide) (List.mem_of_getElem? (i := 2) rfl) rfl dX3_letAhead_5 ?_
  refine q_runv C w fu_d (q_V (As := [.ref hn]) (rest := []) C w fu_d fX0_draft gX3_letAhead_X0_draft rfl ⟨Nat.le_of_ble_eq_true rfl, Nat.le_of_ble_eq_true rfl⟩ (kX0_draft l D cI cC cS hh har hs ha η dp hn adn σ  (by omega) _) (q0 := 0) rfl rfl rfl rfl hl (Nat.le_of_ble_eq_true rfl) dX3_letAhead_8 ⟨Nat.le_refl 0, Nat.le_refl 0⟩) (fun H locs w => ?_)
  refine q_aload_n C hl dX3_letAhead_11 rfl 0 rfl ?_
  refine q_aload_n C hl dX3_letAhead_12 rfl 0 rfl ?_
  refine q_getU C w.1 (fun w h => List.mem_cons_of_mem _ (List.mem_append_left _ (List.mem_append_left _ (List.mem_append_right _ h)))) 0 (by decide) (List.mem_of_getElem? (i := 2) rfl) rfl dX3_letAhead_13 ?_
  refine q_iload_n C hl dX3_letAhead_16 rfl 1 rfl ?_
  refine q_runi C w fu_n (q_V (As := [.int (jj p)]) (rest := [.ref h]) C w fu_n fX1_changePlaces gX3_letAhead_X1_changePlaces rfl ⟨Nat.le_of_ble_eq_true rfl, Nat.le_of_ble_eq_true rfl⟩ (kX1_changePlaces l D cI cC cS hn adn σ p (by omega) (by omega) _) (q0 := 0) rfl rfl rfl rfl hl (Nat.le_of_ble_eq_true rfl) dX3_letAhead_17 ⟨Nat.le_refl 0, Nat.le_refl 0⟩) (fun H locs w => ?_)
  refine q_runi C w fr_all (q_V (As := [.int (jj (ltu σ p))]) (rest := []) C w fr_all fX3_recorded gX3_letAhead_X3_recorded rfl ⟨Nat.le_of_ble_eq_true rfl, Nat.le_of_ble_eq_true rfl⟩ (kX3_recorded l D cI cC cS h hn adn hsn ads hh har hw adw (ltv σ p) ς hs ha (upN η dp.toNat σ) dp τ kd am sd q u (ltu σ p) ⟨by omega, by omega⟩ (by omega) _) (q0 := 0) rfl rfl rfl rfl hl (Nat.le_of_ble_eq_true rfl) dX3_letAhead_20 ⟨Nat.le_refl 0, Nat.le_refl 0⟩) (fun H locs w => ?_)
  exact q_iret C w dX3_letAhead_23 (by first | rfl | omega) rfl

def rX3_swap : Room := { frames := 3, cells := 0, slots := 0, locals := 102 }
theorem fX3_swap : Fc yX3_swap wsX3_swap rX3_swap cX3_swap 2 (some .int) 1 := ⟨⟨_, rfl⟩, rfl, rfl, by decide +kernel, by decide +kernel, by decide +kernel⟩
set_option maxHeartbeats 4000000 in
set_option maxRecDepth 10000 in
theorem kX3_swap (l : Launch) (D : va_G) (cI cC cS : ClassId) (h hn : Nat) (adn : Nat → Nat) (hsn : Nat) (ads : Nat → Nat) (hh har hw : Nat) (adw : Nat → Nat) (σ ς : Int → Int) (hs : Nat → Nat) (ha : Nat → Nat → Nat) (η : Nat → Int → Int) (dp : Int) (τ kd am sd q u : Int → Int) (p : Int) (bY : Iv σ) (bdp : 0 ≤ dp ∧ dp ≤ 4) (z_p : -2147483648 ≤ p ∧ p ≤ 2147483647) (bu : -13 ≤ swu σ p ∧ swu σ p ≤ 5) : Ki l yX3_swap wsX3_swap rX3_swap D (tz cI cC cS) [.ref h, .int (jj p)] (uW cI cC cS h hn adn hsn ads hh har hw adw σ ς hs ha η dp τ kd am sd q u) (swu σ p) (uW cI cC cS h hn adn hsn ads hh har hw adw (swv σ p) ς (rcH (swu σ p) dp hs) (rcH (swu σ p) dp ha) (rcH (swu σ p) dp (upN η dp.toNat σ)) (rcP (swu σ p) dp) τ kd am sd q u) := by
  refine q_entry (cc := cX3_swap) (nL := 2) (ret := (some .int)) (by decide) ⟨_, rfl⟩ (Nat.le_of_ble_eq_true rfl) ?_
  intro A pr en s m args below meth c C hin w ls hl
  have w := w
  have hl : lv_has ls 2 [(0, .ref h), (1, .int (jj p))] := hl
  refine q_aload_n C hl dX3_swap_0 rfl 0 rfl ?_
  refine q_getU C w.1 (fun w h => List.mem_cons_of_mem _ (List.mem_append_left _ (List.mem_append_left _ (List.mem_append_right _ h)))) 2 (by decide) (List.mem_of_getElem? (i := 1) rfl) rfl dX3_swap_1 ?_
  refine q_aload_n C hl dX3_swap_4 rfl 0 rfl ?_
  refine q_getU C w.1 (fun w h => List.mem_cons_of_mem _ (List.mem_append_left _ (List.mem_append_left _ (List.mem_append_right _ h)))) 0 (by decide) (List.mem_of_getElem? (i := 2) rfl) rfl dX3_swap_5 ?_
  refine q_runv C w fu_d (q_V (As := [.ref hn]) (rest := []) C w fu_d fX0_draft gX3_swap_X0_draft rfl ⟨Nat.le_of_ble_eq_true rfl, Nat.le_of_ble_eq_true rfl⟩ (kX0_draft l D cI cC cS hh har hs ha η dp hn adn σ  (by omega) _) (q0 := 0) rfl rfl rfl rfl hl (Nat.le_of_ble_eq_true rfl) dX3_swap_8 ⟨Nat.le_refl 0, Nat.le_refl 0⟩) (fun H locs w => ?_)
  refine q_aload_n C hl dX3_swap_11 rfl 0 rfl ?_
  refine q_aload_n C hl dX3_swap_12 rfl 0 rfl ?_
  refine q_getU C w.1 (fun w h => List.mem_cons_of_mem _ (List.mem_append_left _ (List.mem_append_left _ (List.mem_append_right _ h)))) 0 (by decide) (List.mem_of_getElem? (i := 2) rfl) rfl dX3_swap_13 ?_
  refine q_iload_n C hl dX3_swap_16 rfl 1 rfl ?_
  refine q_runi C w fu_n (q_V (As := [.int (jj p)]) (rest := [.ref h]) C w fu_n fX1_swapUmbrellas gX3_swap_X1_swapUmbrellas rfl ⟨Nat.le_of_ble_eq_true rfl, Nat.le_of_ble_eq_true rfl⟩ (kX1_swapUmbrellas l D cI cC cS hn adn σ p (by omega) (by omega) _) (q0 := 0) rfl rfl rfl rfl hl (Nat.le_of_ble_eq_true rfl) dX3_swap_17 ⟨Nat.le_refl 0, Nat.le_refl 0⟩) (fun H locs w => ?_)
  refine q_runi C w fr_all (q_V (As := [.int (jj (swu σ p))]) (rest := []) C w fr_all fX3_recorded gX3_swap_X3_recorded rfl ⟨Nat.le_of_ble_eq_true rfl, Nat.le_of_ble_eq_true rfl⟩ (kX3_recorded l D cI cC cS h hn adn hsn ads hh har hw adw (swv σ p) ς hs ha (upN η dp.toNat σ) dp τ kd am sd q u (swu σ p) ⟨by omega, by omega⟩ (by omega) _) (q0 := 0) rfl rfl rfl rfl hl (Nat.le_of_ble_eq_true rfl) dX3_swap_20 ⟨Nat.le_refl 0, Nat.le_refl 0⟩) (fun H locs w => ?_)
  exact q_iret C w dX3_swap_23 (by first | rfl | omega) rfl

def rX3_set : Room := { frames := 3, cells := 0, slots := 0, locals := 102 }
theorem fX3_set : Fc yX3_set wsX3_set rX3_set cX3_set 3 (some .int) 2 := ⟨⟨_, rfl⟩, rfl, rfl, by decide +kernel, by decide +kernel, by decide +kernel⟩
set_option maxHeartbeats 4000000 in
set_option maxRecDepth 10000 in
theorem kX3_set (l : Launch) (D : va_G) (cI cC cS : ClassId) (h hn : Nat) (adn : Nat → Nat) (hsn : Nat) (ads : Nat → Nat) (hh har hw : Nat) (adw : Nat → Nat) (σ ς : Int → Int) (hs : Nat → Nat) (ha : Nat → Nat → Nat) (η : Nat → Int → Int) (dp : Int) (τ kd am sd q u : Int → Int) (wh v : Int) (bY : Iv σ) (bdp : 0 ≤ dp ∧ dp ≤ 4) (z_wh : -2147483648 ≤ wh ∧ wh ≤ 2147483647) (z_v : -2147483648 ≤ v ∧ v ≤ 2147483647) (bu : -5 ≤ setu σ wh v ∧ setu σ wh v ≤ 99) : Ki l yX3_set wsX3_set rX3_set D (tz cI cC cS) [.ref h, .int (jj wh), .int (jj v)] (uW cI cC cS h hn adn hsn ads hh har hw adw σ ς hs ha η dp τ kd am sd q u) (setu σ wh v) (uW cI cC cS h hn adn hsn ads hh har hw adw (setv σ wh v) ς (rcH (setu σ wh v) dp hs) (rcH (setu σ wh v) dp ha) (rcH (setu σ wh v) dp (upN η dp.toNat σ)) (rcP (setu σ wh v) dp) τ kd am sd q u) := by
  refine q_entry (cc := cX3_set) (nL := 3) (ret := (some .int)) (by decide) ⟨_, rfl⟩ (Nat.le_of_ble_eq_true rfl) ?_
  intro A pr en s m args below meth c C hin w ls hl
  have w := w
  have hl : lv_has ls 3 [(0, .ref h), (1, .int (jj wh)), (2, .int (jj v))] := hl
  refine q_aload_n C hl dX3_set_0 rfl 0 rfl ?_
  refine q_getU C w.1 (fun w h => List.mem_cons_of_mem _ (List.mem_append_left _ (List.mem_append_left _ (List.mem_append_right _ h)))) 2 (by decide) (List.mem_of_getElem? (i := 1) rfl) rfl dX3_set_1 ?_
  refine q_aload_n C hl dX3_set_4 rfl 0 rfl ?_
  refine q_getU C w.1 (fun w h => List.mem_cons_of_mem _ (List.mem_append_left _ (List.mem_append_left _ (List.mem_append_right _ h)))) 0 (by decide) (List.mem_of_getElem? (i := 2) rfl) rfl dX3_set_5 ?_
  refine q_runv C w fu_d (q_V (As := [.ref hn]) (rest := []) C w fu_d fX0_draft gX3_set_X0_draft rfl ⟨Nat.le_of_ble_eq_true rfl, Nat.le_of_ble_eq_true rfl⟩ (kX0_draft l D cI cC cS hh har hs ha η dp hn adn σ  (by omega) _) (q0 := 0) rfl rfl rfl rfl hl (Nat.le_of_ble_eq_true rfl) dX3_set_8 ⟨Nat.le_refl 0, Nat.le_refl 0⟩) (fun H locs w => ?_)
  refine q_aload_n C hl dX3_set_11 rfl 0 rfl ?_
  refine q_aload_n C hl dX3_set_12 rfl 0 rfl ?_
  refine q_getU C w.1 (fun w h => List.mem_cons_of_mem _ (List.mem_append_left _ (List.mem_append_left _ (List.mem_append_right _ h)))) 0 (by decide) (List.mem_of_getElem? (i := 2) rfl) rfl dX3_set_13 ?_
  refine q_iload_n C hl dX3_set_16 rfl 1 rfl ?_
  refine q_iload_n C hl dX3_set_17 rfl 2 rfl ?_
  refine q_runi C w fu_n (q_V (As := [.int (jj wh), .int (jj v)]) (rest := [.ref h]) C w fu_n fX1_changeSetting gX3_set_X1_changeSetting rfl ⟨Nat.le_of_ble_eq_true rfl, Nat.le_of_ble_eq_true rfl⟩ (kX1_changeSetting l D cI cC cS hn adn σ wh v (by omega) (by omega) (by omega) _) (q0 := 0) rfl rfl rfl rfl hl (Nat.le_of_ble_eq_true rfl) dX3_set_18 ⟨Nat.le_refl 0, Nat.le_refl 0⟩) (fun H locs w => ?_)
  refine q_runi C w fr_all (q_V (As := [.int (jj (setu σ wh v))]) (rest := []) C w fr_all fX3_recorded gX3_set_X3_recorded rfl ⟨Nat.le_of_ble_eq_true rfl, Nat.le_of_ble_eq_true rfl⟩ (kX3_recorded l D cI cC cS h hn adn hsn ads hh har hw adw (setv σ wh v) ς hs ha (upN η dp.toNat σ) dp τ kd am sd q u (setu σ wh v) ⟨by omega, by omega⟩ (by omega) _) (q0 := 0) rfl rfl rfl rfl hl (Nat.le_of_ble_eq_true rfl) dX3_set_21 ⟨Nat.le_refl 0, Nat.le_refl 0⟩) (fun H locs w => ?_)
  exact q_iret C w dX3_set_24 (by first | rfl | omega) rfl

def rX3_gust : Room := { frames := 6, cells := 0, slots := 0, locals := 147 }
theorem fX3_gust : Fc yX3_gust wsX3_gust rX3_gust cX3_gust 3 (some .int) 2 := ⟨⟨_, rfl⟩, rfl, rfl, by decide +kernel, by decide +kernel, by decide +kernel⟩
set_option maxHeartbeats 4000000 in
set_option maxRecDepth 10000 in
theorem kX3_gust (l : Launch) (D : va_G) (cI cC cS : ClassId) (h hn : Nat) (adn : Nat → Nat) (hsn : Nat) (ads : Nat → Nat) (hh har hw : Nat) (adw : Nat → Nat) (σ ς : Int → Int) (hs : Nat → Nat) (ha : Nat → Nat → Nat) (η : Nat → Int → Int) (dp : Int) (τ kd am sd q u : Int → Int) (d side : Int) (bY : Iv σ) (bdp : 0 ≤ dp ∧ dp ≤ 4) (z_d : -2147483648 ≤ d ∧ d ≤ 2147483647) (z_side : -2147483648 ≤ side ∧ side ≤ 2147483647) (bu : -5 ≤ guA σ d side ∧ guA σ d side ≤ 16) : Ki l yX3_gust wsX3_gust rX3_gust D (tz cI cC cS) [.ref h, .int (jj d), .int (jj side)] (uW cI cC cS h hn adn hsn ads hh har hw adw σ ς hs ha η dp τ kd am sd q u) (guA σ d side) (uW cI cC cS h hn adn hsn ads hh har hw adw (guW σ d side) ς (rcH (guA σ d side) dp hs) (rcH (guA σ d side) dp ha) (rcH (guA σ d side) dp (upN η dp.toNat σ)) (rcP (guA σ d side) dp) τ kd am sd q u) := by
  refine q_entry (cc := cX3_gust) (nL := 3) (ret := (some .int)) (by decide) ⟨_, rfl⟩ (Nat.le_of_ble_eq_true rfl) ?_
  intro A pr en s m args below meth c C hin w ls hl
  have w := w
  have hl : lv_has ls 3 [(0, .ref h), (1, .int (jj d)), (2, .int (jj side))] := hl
  refine q_aload_n C hl dX3_gust_0 rfl 0 rfl ?_
  refine q_getU C w.1 (fun w h => List.mem_cons_of_mem _ (List.mem_append_left _ (List.mem_append_left _ (List.mem_append_right _ h)))) 2 (by decide) (List.mem_of_getElem? (i := 1) rfl) rfl dX3_gust_1 ?_
  refine q_aload_n C hl dX3_gust_4 rfl 0 rfl ?_
  refine q_getU C w.1 (fun w h => List.mem_cons_of_mem _ (List.mem_append_left _ (List.mem_append_left _ (List.mem_append_right _ h)))) 0 (by decide) (List.mem_of_getElem? (i := 2) rfl) rfl dX3_gust_5 ?_
  refine q_runv C w fu_d (q_V (As := [.ref hn]) (rest := []) C w fu_d fX0_draft gX3_gust_X0_draft rfl ⟨Nat.le_of_ble_eq_true rfl, Nat.le_of_ble_eq_true rfl⟩ (kX0_draft l D cI cC cS hh har hs ha η dp hn adn σ  (by omega) _) (q0 := 0) rfl rfl rfl rfl hl (Nat.le_of_ble_eq_true rfl) dX3_gust_8 ⟨Nat.le_refl 0, Nat.le_refl 0⟩) (fun H locs w => ?_)
  refine q_aload_n C hl dX3_gust_11 rfl 0 rfl ?_
  refine q_aload_n C hl dX3_gust_12 rfl 0 rfl ?_
  refine q_getU C w.1 (fun w h => List.mem_cons_of_mem _ (List.mem_append_left _ (List.mem_append_left _ (List.mem_append_right _ h)))) 0 (by decide) (List.mem_of_getElem? (i := 2) rfl) rfl dX3_gust_13 ?_
  refine q_iload_n C hl dX3_gust_16 rfl 1 rfl ?_
  refine q_iload_n C hl dX3_gust_17 rfl 2 rfl ?_
  refine q_runi C w fu_n (q_V (As := [.int (jj d), .int (jj side)]) (rest := [.ref h]) C w fu_n fX1_rain gX3_gust_X1_rain rfl ⟨Nat.le_of_ble_eq_true rfl, Nat.le_of_ble_eq_true rfl⟩ (kX1_rain l D cI cC cS hn adn σ d side (by omega) (by omega) (by omega) _) (q0 := 0) rfl rfl rfl rfl hl (Nat.le_of_ble_eq_true rfl) dX3_gust_18 ⟨Nat.le_refl 0, Nat.le_refl 0⟩) (fun H locs w => ?_)
  refine q_runi C w fr_all (q_V (As := [.int (jj (guA σ d side))]) (rest := []) C w fr_all fX3_recorded gX3_gust_X3_recorded rfl ⟨Nat.le_of_ble_eq_true rfl, Nat.le_of_ble_eq_true rfl⟩ (kX3_recorded l D cI cC cS h hn adn hsn ads hh har hw adw (guW σ d side) ς hs ha (upN η dp.toNat σ) dp τ kd am sd q u (guA σ d side) ⟨by omega, by omega⟩ (by omega) _) (q0 := 0) rfl rfl rfl rfl hl (Nat.le_of_ble_eq_true rfl) dX3_gust_21 ⟨Nat.le_refl 0, Nat.le_refl 0⟩) (fun H locs w => ?_)
  exact q_iret C w dX3_gust_24 (by first | rfl | omega) rfl

def rX3_pass : Room := { frames := 3, cells := 0, slots := 0, locals := 102 }
theorem fX3_pass : Fc yX3_pass wsX3_pass rX3_pass cX3_pass 2 (some .int) 1 := ⟨⟨_, rfl⟩, rfl, rfl, by decide +kernel, by decide +kernel, by decide +kernel⟩
set_option maxHeartbeats 4000000 in
set_option maxRecDepth 10000 in
theorem kX3_pass (l : Launch) (D : va_G) (cI cC cS : ClassId) (h hn : Nat) (adn : Nat → Nat) (hsn : Nat) (ads : Nat → Nat) (hh har hw : Nat) (adw : Nat → Nat) (σ ς : Int → Int) (hs : Nat → Nat) (ha : Nat → Nat → Nat) (η : Nat → Int → Int) (dp : Int) (τ kd am sd q u : Int → Int) (mi : Int) (bY : Iv σ) (bdp : 0 ≤ dp ∧ dp ≤ 4) (z_mi : -2147483648 ≤ mi ∧ mi ≤ 2147483647) (bu : -3 ≤ pu2 σ mi ∧ pu2 σ mi ≤ 16) : Ki l yX3_pass wsX3_pass rX3_pass D (tz cI cC cS) [.ref h, .int (jj mi)] (uW cI cC cS h hn adn hsn ads hh har hw adw σ ς hs ha η dp τ kd am sd q u) (pu2 σ mi) (uW cI cC cS h hn adn hsn ads hh har hw adw (pvW σ mi) ς (rcH (pu2 σ mi) dp hs) (rcH (pu2 σ mi) dp ha) (rcH (pu2 σ mi) dp (upN η dp.toNat σ)) (rcP (pu2 σ mi) dp) τ kd am sd q u) := by
  refine q_entry (cc := cX3_pass) (nL := 2) (ret := (some .int)) (by decide) ⟨_, rfl⟩ (Nat.le_of_ble_eq_true rfl) ?_
  intro A pr en s m args below meth c C hin w ls hl
  have w := w
  have hl : lv_has ls 2 [(0, .ref h), (1, .int (jj mi))] := hl
  refine q_aload_n C hl dX3_pass_0 rfl 0 rfl ?_
  refine q_getU C w.1 (fun w h => List.mem_cons_of_mem _ (List.mem_append_left _ (List.mem_append_left _ (List.mem_append_right _ h)))) 2 (by decide) (List.mem_of_getElem? (i := 1) rfl) rfl dX3_pass_1 ?_
  refine q_aload_n C hl dX3_pass_4 rfl 0 rfl ?_
  refine q_getU C w.1 (fun w h => List.mem_cons_of_mem _ (List.mem_append_left _ (List.mem_append_left _ (List.mem_append_right _ h)))) 0 (by decide) (List.mem_of_getElem? (i := 2) rfl) rfl dX3_pass_5 ?_
  refine q_runv C w fu_d (q_V (As := [.ref hn]) (rest := []) C w fu_d fX0_draft gX3_pass_X0_draft rfl ⟨Nat.le_of_ble_eq_true rfl, Nat.le_of_ble_eq_true rfl⟩ (kX0_draft l D cI cC cS hh har hs ha η dp hn adn σ  (by omega) _) (q0 := 0) rfl rfl rfl rfl hl (Nat.le_of_ble_eq_true rfl) dX3_pass_8 ⟨Nat.le_refl 0, Nat.le_refl 0⟩) (fun H locs w => ?_)
  refine q_aload_n C hl dX3_pass_11 rfl 0 rfl ?_
  refine q_aload_n C hl dX3_pass_12 rfl 0 rfl ?_
  refine q_getU C w.1 (fun w h => List.mem_cons_of_mem _ (List.mem_append_left _ (List.mem_append_left _ (List.mem_append_right _ h)))) 0 (by decide) (List.mem_of_getElem? (i := 2) rfl) rfl dX3_pass_13 ?_
  refine q_iload_n C hl dX3_pass_16 rfl 1 rfl ?_
  refine q_runi C w fu_n (q_V (As := [.int (jj mi)]) (rest := [.ref h]) C w fu_n fX1_dry gX3_pass_X1_dry rfl ⟨Nat.le_of_ble_eq_true rfl, Nat.le_of_ble_eq_true rfl⟩ (kX1_dry l D cI cC cS hn adn σ mi (by omega) (by omega) _) (q0 := 0) rfl rfl rfl rfl hl (Nat.le_of_ble_eq_true rfl) dX3_pass_17 ⟨Nat.le_refl 0, Nat.le_refl 0⟩) (fun H locs w => ?_)
  refine q_runi C w fr_all (q_V (As := [.int (jj (pu2 σ mi))]) (rest := []) C w fr_all fX3_recorded gX3_pass_X3_recorded rfl ⟨Nat.le_of_ble_eq_true rfl, Nat.le_of_ble_eq_true rfl⟩ (kX3_recorded l D cI cC cS h hn adn hsn ads hh har hw adw (pvW σ mi) ς hs ha (upN η dp.toNat σ) dp τ kd am sd q u (pu2 σ mi) ⟨by omega, by omega⟩ (by omega) _) (q0 := 0) rfl rfl rfl rfl hl (Nat.le_of_ble_eq_true rfl) dX3_pass_20 ⟨Nat.le_refl 0, Nat.le_refl 0⟩) (fun H locs w => ?_)
  exact q_iret C w dX3_pass_23 (by first | rfl | omega) rfl

def rX3_serve : Room := { frames := 5, cells := 0, slots := 0, locals := 125 }
theorem fX3_serve : Fc yX3_serve wsX3_serve rX3_serve cX3_serve 1 (some .int) 0 := ⟨⟨_, rfl⟩, rfl, rfl, by decide +kernel, by decide +kernel, by decide +kernel⟩
set_option maxHeartbeats 4000000 in
set_option maxRecDepth 10000 in
theorem kX3_serve (l : Launch) (D : va_G) (cI cC cS : ClassId) (h hn : Nat) (adn : Nat → Nat) (hsn : Nat) (ads : Nat → Nat) (hh har hw : Nat) (adw : Nat → Nat) (σ ς : Int → Int) (hs : Nat → Nat) (ha : Nat → Nat → Nat) (η : Nat → Int → Int) (dp : Int) (τ kd am sd q u : Int → Int)  (bY : Iv σ) (bdp : 0 ≤ dp ∧ dp ≤ 4) (bu : -5 ≤ seu σ ∧ seu σ ≤ 9999) : Ki l yX3_serve wsX3_serve rX3_serve D (tz cI cC cS) [.ref h] (uW cI cC cS h hn adn hsn ads hh har hw adw σ ς hs ha η dp τ kd am sd q u) (seu σ) (uW cI cC cS h hn adn hsn ads hh har hw adw (sevW σ) ς (rcH (seu σ) dp hs) (rcH (seu σ) dp ha) (rcH (seu σ) dp (upN η dp.toNat σ)) (rcP (seu σ) dp) τ kd am sd q u) := by
  refine q_entry (cc := cX3_serve) (nL := 1) (ret := (some .int)) (by decide) ⟨_, rfl⟩ (Nat.le_of_ble_eq_true rfl) ?_
  intro A pr en s m args below meth c C hin w ls hl
  have w := w
  have hl : lv_has ls 1 [(0, .ref h)] := hl
  refine q_aload_n C hl dX3_serve_0 rfl 0 rfl ?_
  refine q_getU C w.1 (fun w h => List.mem_cons_of_mem _ (List.mem_append_left _ (List.mem_append_left _ (List.mem_append_right _ h)))) 2 (by decide) (List.mem_of_getElem? (i := 1) rfl) rfl dX3_serve_1 ?_
  refine q_aload_n C hl dX3_serve_4 rfl 0 rfl ?_
  refine q_getU C w.1 (fun w h => List.mem_cons_of_mem _ (List.mem_append_left _ (List.mem_append_left _ (List.mem_append_right _ h)))) 0 (by decide) (List.mem_of_getElem? (i := 2) rfl) rfl dX3_serve_5 ?_
  refine q_runv C w fu_d (q_V (As := [.ref hn]) (rest := []) C w fu_d fX0_draft gX3_serve_X0_draft rfl ⟨Nat.le_of_ble_eq_true rfl, Nat.le_of_ble_eq_true rfl⟩ (kX0_draft l D cI cC cS hh har hs ha η dp hn adn σ  (by omega) _) (q0 := 0) rfl rfl rfl rfl hl (Nat.le_of_ble_eq_true rfl) dX3_serve_8 ⟨Nat.le_refl 0, Nat.le_refl 0⟩) (fun H locs w => ?_)
  refine q_aload_n C hl dX3_serve_11 rfl 0 rfl ?_
  refine q_aload_n C hl dX3_serve_12 rfl 0 rfl ?_
  refine q_getU C w.1 (fun w h => List.mem_cons_of_mem _ (List.mem_append_left _ (List.mem_append_left _ (List.mem_append_right _ h)))) 0 (by decide) (List.mem_of_getElem? (i := 2) rfl) rfl dX3_serve_13 ?_
  refine q_runi C w fu_n (q_V (As := []) (rest := [.ref h]) C w fu_n fX1_serveFirst gX3_serve_X1_serveFirst rfl ⟨Nat.le_of_ble_eq_true rfl, Nat.le_of_ble_eq_true rfl⟩ (kX1_serveFirst l D cI cC cS hn adn σ  (by omega) _) (q0 := 0) rfl rfl rfl rfl hl (Nat.le_of_ble_eq_true rfl) dX3_serve_16 ⟨Nat.le_refl 0, Nat.le_refl 0⟩) (fun H locs w => ?_)
  refine q_runi C w fr_all (q_V (As := [.int (jj (seu σ))]) (rest := []) C w fr_all fX3_recorded gX3_serve_X3_recorded rfl ⟨Nat.le_of_ble_eq_true rfl, Nat.le_of_ble_eq_true rfl⟩ (kX3_recorded l D cI cC cS h hn adn hsn ads hh har hw adw (sevW σ) ς hs ha (upN η dp.toNat σ) dp τ kd am sd q u (seu σ) ⟨by omega, by omega⟩ (by omega) _) (q0 := 0) rfl rfl rfl rfl hl (Nat.le_of_ble_eq_true rfl) dX3_serve_19 ⟨Nat.le_refl 0, Nat.le_refl 0⟩) (fun H locs w => ?_)
  exact q_iret C w dX3_serve_22 (by first | rfl | omega) rfl

def rX3_undo : Room := { frames := 2, cells := 0, slots := 0, locals := 81 }
theorem fX3_undo : Fc yX3_undo wsX3_undo rX3_undo cX3_undo 1 (some .int) 0 := ⟨⟨_, rfl⟩, rfl, rfl, by decide +kernel, by decide +kernel, by decide +kernel⟩
set_option maxHeartbeats 4000000 in
set_option maxRecDepth 10000 in
theorem kX3_undo (l : Launch) (D : va_G) (cI cC cS : ClassId) (h hn : Nat) (adn : Nat → Nat) (hsn : Nat) (ads : Nat → Nat) (hh har hw : Nat) (adw : Nat → Nat) (σ ς : Int → Int) (hs : Nat → Nat) (ha : Nat → Nat → Nat) (η : Nat → Int → Int) (dp : Int) (τ kd am sd q u : Int → Int)  (bdp : 0 ≤ dp ∧ dp ≤ 4) : Ki l yX3_undo wsX3_undo rX3_undo D (tz cI cC cS) [.ref h] (uW cI cC cS h hn adn hsn ads hh har hw adw σ ς hs ha η dp τ kd am sd q u) (if dp = 0 then -5 else dp - 1) (uW cI cC cS h hn adn hsn ads hh har hw adw (if dp = 0 then σ else η (dp - 1).toNat) ς hs ha η (if dp = 0 then 0 else dp - 1) τ kd am sd q u) := by
  refine q_entry (cc := cX3_undo) (nL := 1) (ret := (some .int)) (by decide) ⟨_, rfl⟩ (Nat.le_of_ble_eq_true rfl) ?_
  intro A pr en s m args below meth c C hin w ls hl
  have w := w
  have hl : lv_has ls 1 [(0, .ref h)] := hl
  refine q_aload_n C hl dX3_undo_0 rfl 0 rfl ?_
  refine q_getU C w.1 (fun w h => List.mem_cons_of_mem _ (List.mem_append_left _ (List.mem_append_left _ (List.mem_append_right _ h)))) 2 (by decide) (List.mem_of_getElem? (i := 1) rfl) rfl dX3_undo_1 ?_
  refine q_getH C (vU_h w.1) (fun w h => List.mem_cons_of_mem _ (List.mem_append_left _ (List.mem_append_right _ h))) 1 (by decide) (List.mem_of_getElem? (i := 2) rfl) rfl dX3_undo_4 ?_
  refine q_if_ne (tgt := 13) C dX3_undo_7 (by decide) ⟨by omega, by omega⟩ (fun c1 => ?_) (fun c1 => ?_)
  · have c1 := c1
    refine q_aload_n C hl dX3_undo_13 rfl 0 rfl ?_
    refine q_getU C w.1 (fun w h => List.mem_cons_of_mem _ (List.mem_append_left _ (List.mem_append_left _ (List.mem_append_right _ h)))) 0 (by decide) (List.mem_of_getElem? (i := 3) rfl) rfl dX3_undo_14 ?_
    refine q_aload_n C hl dX3_undo_17 rfl 0 rfl ?_
    refine q_getU C w.1 (fun w h => List.mem_cons_of_mem _ (List.mem_append_left _ (List.mem_append_left _ (List.mem_append_right _ h)))) 2 (by decide) (List.mem_of_getElem? (i := 1) rfl) rfl dX3_undo_18 ?_
    refine q_runr C w fu_h (q_V (As := []) (rest := [.ref hn]) C w fu_h fX0_takeLatest gX3_undo_X0_takeLatest rfl ⟨Nat.le_of_ble_eq_true rfl, Nat.le_of_ble_eq_true rfl⟩ (kX0_takeLatest l D cI cC cS hh har hs ha η dp  (by omega) _) (q0 := 0) rfl rfl rfl rfl hl (Nat.le_of_ble_eq_true rfl) dX3_undo_21 ⟨Nat.le_refl 0, Nat.le_refl 0⟩) (fun H locs w => ?_)
    refine q_runv C w (fu_u (d := (dp - 1).toNat) (by omega)) (q_V (As := [.ref (hs (dp - 1).toNat)]) (rest := []) C w (fu_u (d := (dp - 1).toNat) (by omega)) fX1_copyFrom gX3_undo_X1_copyFrom rfl ⟨Nat.le_of_ble_eq_true rfl, Nat.le_of_ble_eq_true rfl⟩ (kX1_copyFrom l D cI cC cS hn adn σ (hs (dp - 1).toNat) (ha (dp - 1).toNat) (η (dp - 1).toNat)   _) (q0 := 0) rfl rfl rfl rfl hl (Nat.le_of_ble_eq_true rfl) dX3_undo_24 ⟨Nat.le_refl 0, Nat.le_refl 0⟩) (fun H locs w => ?_)
    refine q_aload_n C hl dX3_undo_27 rfl 0 rfl ?_
    refine q_getU C w.1 (fun w h => List.mem_cons_of_mem _ (List.mem_append_left _ (List.mem_append_left _ (List.mem_append_right _ h)))) 2 (by decide) (List.mem_of_getElem? (i := 1) rfl) rfl dX3_undo_28 ?_
    refine q_getH C (vU_h w.1) (fun w h => List.mem_cons_of_mem _ (List.mem_append_left _ (List.mem_append_right _ h))) 1 (by decide) (List.mem_of_getElem? (i := 2) rfl) rfl dX3_undo_31 ?_
    exact q_iret C w dX3_undo_34 (by rw [if_neg (by omega)]) (by rw [if_neg (by omega), if_neg (by omega)])
  · have c1 := c1
    refine q_bipush C dX3_undo_10 (by decide) ?_
    exact q_iret C w dX3_undo_12 (by rw [if_pos (by omega)]) (by have e : dp = 0 := (by omega); rw [if_pos e, if_pos e, e])

def rX3_restore : Room := { frames := 3, cells := 0, slots := 0, locals := 102 }
theorem fX3_restore : Fc yX3_restore wsX3_restore rX3_restore cX3_restore 1 (some .int) 0 := ⟨⟨_, rfl⟩, rfl, rfl, by decide +kernel, by decide +kernel, by decide +kernel⟩
set_option maxHeartbeats 4000000 in
set_option maxRecDepth 10000 in
theorem kX3_restore (l : Launch) (D : va_G) (cI cC cS : ClassId) (h hn : Nat) (adn : Nat → Nat) (hsn : Nat) (ads : Nat → Nat) (hh har hw : Nat) (adw : Nat → Nat) (σ ς : Int → Int) (hs : Nat → Nat) (ha : Nat → Nat → Nat) (η : Nat → Int → Int) (dp : Int) (τ kd am sd q u : Int → Int)  (bdp : 0 ≤ dp ∧ dp ≤ 4) (b3 : 0 ≤ u 4 ∧ u 4 ≤ 1) (bs0 : 0 ≤ ς 0 ∧ ς 0 ≤ 16) : Ki l yX3_restore wsX3_restore rX3_restore D (tz cI cC cS) [.ref h] (uW cI cC cS h hn adn hsn ads hh har hw adw σ ς hs ha η dp τ kd am sd q u) (if u 4 = 0 then -5 else ς 0) (uW cI cC cS h hn adn hsn ads hh har hw adw (if u 4 = 0 then σ else ς) ς (if u 4 = 0 then hs else kh dp hs) (if u 4 = 0 then ha else kh dp ha) (if u 4 = 0 then η else kh dp (upN η dp.toNat σ)) (if u 4 = 0 then dp else kdp dp) τ kd am sd q u) := by
  refine q_entry (cc := cX3_restore) (nL := 1) (ret := (some .int)) (by decide) ⟨_, rfl⟩ (Nat.le_of_ble_eq_true rfl) ?_
  intro A pr en s m args below meth c C hin w ls hl
  have w := w
  have hl : lv_has ls 1 [(0, .ref h)] := hl
  refine q_aload_n C hl dX3_restore_0 rfl 0 rfl ?_
  refine q_getU (v := .int (jj (u 4))) C w.1 (fun w h => List.mem_cons_of_mem _ (List.mem_append_left _ (List.mem_append_left _ (List.mem_append_right _ h)))) 4 (by decide) (List.mem_of_getElem? (i := 1) rfl) rfl dX3_restore_1 ?_
  refine q_if_ne (tgt := 10) C dX3_restore_4 (by decide) ⟨by omega, by omega⟩ (fun c1 => ?_) (fun c1 => ?_)
  · have c1 := c1
    refine q_aload_n C hl dX3_restore_10 rfl 0 rfl ?_
    refine q_getU C w.1 (fun w h => List.mem_cons_of_mem _ (List.mem_append_left _ (List.mem_append_left _ (List.mem_append_right _ h)))) 2 (by decide) (List.mem_of_getElem? (i := 2) rfl) rfl dX3_restore_11 ?_
    refine q_aload_n C hl dX3_restore_14 rfl 0 rfl ?_
    refine q_getU C w.1 (fun w h => List.mem_cons_of_mem _ (List.mem_append_left _ (List.mem_append_left _ (List.mem_append_right _ h)))) 0 (by decide) (List.mem_of_getElem? (i := 3) rfl) rfl dX3_restore_15 ?_
    refine q_runv C w fu_d (q_V (As := [.ref hn]) (rest := []) C w fu_d fX0_draft gX3_restore_X0_draft rfl ⟨Nat.le_of_ble_eq_true rfl, Nat.le_of_ble_eq_true rfl⟩ (kX0_draft l D cI cC cS hh har hs ha η dp hn adn σ  (by omega) _) (q0 := 0) rfl rfl rfl rfl hl (Nat.le_of_ble_eq_true rfl) dX3_restore_18 ⟨Nat.le_refl 0, Nat.le_refl 0⟩) (fun H locs w => ?_)
    refine q_aload_n C hl dX3_restore_21 rfl 0 rfl ?_
    refine q_getU C w.1 (fun w h => List.mem_cons_of_mem _ (List.mem_append_left _ (List.mem_append_left _ (List.mem_append_right _ h)))) 0 (by decide) (List.mem_of_getElem? (i := 3) rfl) rfl dX3_restore_22 ?_
    refine q_aload_n C hl dX3_restore_25 rfl 0 rfl ?_
    refine q_getU C w.1 (fun w h => List.mem_cons_of_mem _ (List.mem_append_left _ (List.mem_append_left _ (List.mem_append_right _ h)))) 1 (by decide) (List.mem_of_getElem? (i := 4) rfl) rfl dX3_restore_26 ?_
    refine q_runv C w fu_r (q_V (As := [.ref hsn]) (rest := []) C w fu_r fX1_copyFrom gX3_restore_X1_copyFrom rfl ⟨Nat.le_of_ble_eq_true rfl, Nat.le_of_ble_eq_true rfl⟩ (kX1_copyFrom l D cI cC cS hn adn σ hsn ads ς   _) (q0 := 0) rfl rfl rfl rfl hl (Nat.le_of_ble_eq_true rfl) dX3_restore_29 ⟨Nat.le_refl 0, Nat.le_refl 0⟩) (fun H locs w => ?_)
    refine q_aload_n C hl dX3_restore_32 rfl 0 rfl ?_
    refine q_aload_n C hl dX3_restore_33 rfl 0 rfl ?_
    refine q_getU C w.1 (fun w h => List.mem_cons_of_mem _ (List.mem_append_left _ (List.mem_append_left _ (List.mem_append_right _ h)))) 0 (by decide) (List.mem_of_getElem? (i := 3) rfl) rfl dX3_restore_34 ?_
    refine q_getS C (vU_n w.1) (fun w h => List.mem_cons_of_mem _ (List.mem_append_left _ (List.mem_append_right _ h))) 7 (by decide) (List.mem_of_getElem? (i := 5) rfl) rfl dX3_restore_37 ?_
    refine q_runi C w fr_all (q_V (As := [.int (jj (ς 0))]) (rest := []) C w fr_all fX3_recorded gX3_restore_X3_recorded rfl ⟨Nat.le_of_ble_eq_true rfl, Nat.le_of_ble_eq_true rfl⟩ (kX3_recorded l D cI cC cS h hn adn hsn ads hh har hw adw ς ς hs ha (upN η dp.toNat σ) dp τ kd am sd q u (ς 0) ⟨by omega, by omega⟩ (by omega) _) (q0 := 0) rfl rfl rfl rfl hl (Nat.le_of_ble_eq_true rfl) dX3_restore_40 ⟨Nat.le_refl 0, Nat.le_refl 0⟩) (fun H locs w => ?_)
    exact q_iret C w dX3_restore_43 (by rw [if_neg (by omega)]) (by have e : 0 ≤ ς 0 := bs0.1; rw [if_neg (by omega), if_neg (by omega), if_neg (by omega), if_neg (by omega), if_neg (by omega)]; unfold rcH rcP; rw [if_pos e, if_pos e, if_pos e, if_pos e])
  · have c1 := c1
    refine q_bipush C dX3_restore_7 (by decide) ?_
    exact q_iret C w dX3_restore_9 (by rw [if_pos (by omega)]) (by rw [if_pos (by omega), if_pos (by omega), if_pos (by omega), if_pos (by omega), if_pos (by omega)])
