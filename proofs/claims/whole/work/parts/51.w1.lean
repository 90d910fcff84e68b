def rX2_append : Room := { frames := 0, cells := 0, slots := 0, locals := 0 }
theorem fX2_append : Fc yX2_append wsX2_append rX2_append cX2_append 2 (some .int) 1 := ⟨⟨_, rfl⟩, rfl, rfl, by decide +kernel, by decide +kernel, by decide +kernel⟩
set_option maxHeartbeats 4000000 in
set_option maxRecDepth 10000 in
theorem kX2_append (l : Launch) (D : va_G) (cI cC cS : ClassId) (h : Nat) (ad : Nat → Nat) (τ kd am sd q : Int → Int) (ch : Int) (b7 : 0 ≤ q 1 ∧ q 1 ≤ 60) (bch : 0 ≤ ch ∧ ch < 65536) : Ki l yX2_append wsX2_append rX2_append D (tz cI cC cS) [.ref h, .int (jj ch)] (tW cI cC h ad τ kd am sd q) (if q 1 = 60 then -3 else q 1 + 1) (tW cI cC h ad (if q 1 = 60 then τ else up τ (q 1) ch) kd am sd (if q 1 = 60 then q else up q 1 (q 1 + 1))) := by
  refine q_entry (cc := cX2_append) (nL := 2) (ret := (some .int)) (by decide) ⟨_, rfl⟩ (Nat.le_of_ble_eq_true rfl) ?_
  intro A pr en s m args below meth c C hin w ls hl
  have w := w
  have hl : lv_has ls 2 [(0, .ref h), (1, .int (jj ch))] := hl
  refine q_aload_n C hl dX2_append_0 rfl 0 rfl ?_
  refine q_getT (v := .int (jj (q 1))) C w.1 (fun w h => List.mem_cons_of_mem _ (List.mem_append_right _ h)) 1 (by decide) (List.mem_of_getElem? (i := 1) rfl) rfl dX2_append_1 ?_
  refine q_bipush C dX2_append_4 (by decide) ?_
  refine q_icmp_lt (tgt := 12) C dX2_append_6 (by decide) ⟨by omega, by omega⟩ ⟨by omega, by omega⟩ (fun c1 => ?_) (fun c1 => ?_)
  · have c1 := c1
    refine q_aload_n C hl dX2_append_12 rfl 0 rfl ?_
    refine q_getT C w.1 (fun w h => List.mem_cons_of_mem _ (List.mem_append_right _ h)) 0 (by decide) (List.mem_of_getElem? (i := 2) rfl) rfl dX2_append_13 ?_
    refine q_aload_n C hl dX2_append_16 rfl 0 rfl ?_
    refine q_getT (v := .int (jj (q 1))) C w.1 (fun w h => List.mem_cons_of_mem _ (List.mem_append_right _ h)) 1 (by decide) (List.mem_of_getElem? (i := 1) rfl) rfl dX2_append_17 ?_
    refine q_iload_n C hl dX2_append_20 rfl 1 rfl ?_
    refine q_cast (ws' := tW cI cC h ad (up τ (q 1) ch) kd am sd q) (n := 60) (f := τ) C w 1 1 rfl rfl ⟨by omega, by omega, by omega⟩ ⟨by omega, by omega⟩ dX2_append_21 rfl (fun H locs w => ?_)
    refine q_aload_n C hl dX2_append_22 rfl 0 rfl ?_
    refine q_dup C dX2_append_23 rfl ?_
    refine q_getT (v := .int (jj (q 1))) C w.1 (fun w h => List.mem_cons_of_mem _ (List.mem_append_right _ h)) 1 (by decide) (List.mem_of_getElem? (i := 1) rfl) rfl dX2_append_24 ?_
    refine q_iconst C dX2_append_27 ?_
    refine q_iadd C dX2_append_28 ?_
    refine q_putT C w (fun w h => List.mem_cons_of_mem _ (List.mem_append_right _ h)) 1 (by decide) (List.mem_of_getElem? (i := 1) rfl) rfl rfl dX2_append_29 (tP1 cI cC h ad _ _ _ _ _ _) (fun H locs w => ?_)
    refine q_aload_n C hl dX2_append_32 rfl 0 rfl ?_
    refine q_getT (v := .int (jj ((q 1) + 1))) C w.1 (fun w h => List.mem_cons_of_mem _ (List.mem_append_right _ h)) 1 (by decide) (List.mem_of_getElem? (i := 1) rfl) rfl dX2_append_33 ?_
    exact q_iret C w dX2_append_36 (by rw [if_neg (by omega)]) (by rw [if_neg (by omega), if_neg (by omega)])
  · have c1 := c1
    refine q_bipush C dX2_append_9 (by decide) ?_
    exact q_iret C w dX2_append_11 (by rw [if_pos (by omega)]) (by rw [if_pos (by omega), if_pos (by omega)])

def rX2_empty : Room := { frames := 0, cells := 0, slots := 0, locals := 0 }
theorem fX2_empty : Fc yX2_empty wsX2_empty rX2_empty cX2_empty 2 (some .int) 0 := ⟨⟨_, rfl⟩, rfl, rfl, by decide +kernel, by decide +kernel, by decide +kernel⟩
set_option maxHeartbeats 4000000 in
set_option maxRecDepth 10000 in
theorem kX2_empty (l : Launch) (D : va_G) (cI cC cS : ClassId) (h : Nat) (ad : Nat → Nat) (τ kd am sd q : Int → Int)   : Ki l yX2_empty wsX2_empty rX2_empty D (tz cI cC cS) [.ref h] (tW cI cC h ad τ kd am sd q) (q 1) (tW cI cC h ad τ kd am sd (up q 1 0)) := by
  refine q_entry (cc := cX2_empty) (nL := 2) (ret := (some .int)) (by decide) ⟨_, rfl⟩ (Nat.le_of_ble_eq_true rfl) ?_
  intro A pr en s m args below meth c C hin w ls hl
  have w := w
  have hl : lv_has ls 2 [(0, .ref h)] := hl
  refine q_aload_n C hl dX2_empty_0 rfl 0 rfl ?_
  refine q_getT (v := .int (jj (q 1))) C w.1 (fun w h => List.mem_cons_of_mem _ (List.mem_append_right _ h)) 1 (by decide) (List.mem_of_getElem? (i := 1) rfl) rfl dX2_empty_1 ?_
  refine q_istore_n (lv' := [(1, .int (jj (q 1))), (0, .ref h)]) C hl dX2_empty_4 rfl (by decide) rfl (fun ls hl => ?_)
  refine q_aload_n C hl dX2_empty_5 rfl 1 rfl ?_
  refine q_iconst C dX2_empty_6 ?_
  refine q_putT C w (fun w h => List.mem_cons_of_mem _ (List.mem_append_right _ h)) 1 (by decide) (List.mem_of_getElem? (i := 1) rfl) rfl rfl dX2_empty_7 (tP1 cI cC h ad _ _ _ _ _ _) (fun H locs w => ?_)
  refine q_iload_n C hl dX2_empty_10 rfl 0 rfl ?_
  exact q_iret C w dX2_empty_11 (by first | rfl | omega) rfl

def rX2_character : Room := { frames := 0, cells := 0, slots := 0, locals := 0 }
theorem fX2_character : Fc yX2_character wsX2_character rX2_character cX2_character 1 (some .int) 0 := ⟨⟨_, rfl⟩, rfl, rfl, by decide +kernel, by decide +kernel, by decide +kernel⟩
set_option maxHeartbeats 4000000 in
set_option maxRecDepth 10000 in
theorem kX2_character (l : Launch) (D : va_G) (cI cC cS : ClassId) (h : Nat) (ad : Nat → Nat) (τ kd am sd q : Int → Int) (P le : Int)  (e6 : q 6 = P) (e1 : q 1 = le) (bpP : 0 ≤ P ∧ P ≤ 100) (ble : 0 ≤ le ∧ le ≤ 60) (bt : ∀ x : Int, 0 ≤ x → x < le → 0 ≤ τ x ∧ τ x ≤ 65535) : Ki l yX2_character wsX2_character rX2_character D (tz cI cC cS) [.ref h] (tW cI cC h ad τ kd am sd q) (chA τ le P) (tW cI cC h ad τ kd am sd q) := by
  refine q_entry (cc := cX2_character) (nL := 1) (ret := (some .int)) (by decide) ⟨_, rfl⟩ (Nat.le_of_ble_eq_true rfl) ?_
  intro A pr en s m args below meth c C hin w ls hl
  have w := w
  have hl : lv_has ls 1 [(0, .ref h)] := hl
  refine q_aload_n C hl dX2_character_0 rfl 0 rfl ?_
  refine q_getT (v := .int (jj P)) C w.1 (fun w h => List.mem_cons_of_mem _ (List.mem_append_right _ h)) 6 (by decide) (List.mem_of_getElem? (i := 1) rfl) (gt_v rfl e6) dX2_character_1 ?_
  refine q_aload_n C hl dX2_character_4 rfl 0 rfl ?_
  refine q_getT (v := .int (jj le)) C w.1 (fun w h => List.mem_cons_of_mem _ (List.mem_append_right _ h)) 1 (by decide) (List.mem_of_getElem? (i := 2) rfl) (gt_v rfl e1) dX2_character_5 ?_
  refine q_icmp_ge (tgt := 23) C dX2_character_8 (by decide) ⟨by omega, by omega⟩ ⟨by omega, by omega⟩ (fun c1 => ?_) (fun c1 => ?_)
  · have c1 := c1
    refine q_iconst C dX2_character_23 ?_
    exact q_iret C w dX2_character_24 (by unfold chA; split <;> first | rfl | omega) rfl
  · have c1 := c1
    refine q_aload_n C hl dX2_character_11 rfl 0 rfl ?_
    refine q_getT C w.1 (fun w h => List.mem_cons_of_mem _ (List.mem_append_right _ h)) 0 (by decide) (List.mem_of_getElem? (i := 3) rfl) rfl dX2_character_12 ?_
    refine q_aload_n C hl dX2_character_15 rfl 0 rfl ?_
    refine q_getT (v := .int (jj P)) C w.1 (fun w h => List.mem_cons_of_mem _ (List.mem_append_right _ h)) 6 (by decide) (List.mem_of_getElem? (i := 1) rfl) (gt_v rfl e6) dX2_character_16 ?_
    refine q_cald (n := 60) (f := τ) C w.1 1 1 rfl rfl ⟨by omega, by omega, by omega⟩ dX2_character_19 ?_
    refine q_goto (tgt := 24) C dX2_character_20 (by decide) ?_
    exact q_iret C w dX2_character_24 (by unfold chA; split <;> first | rfl | omega) rfl

def rX2_digit : Room := { frames := 1, cells := 0, slots := 0, locals := 22 }
theorem fX2_digit : Fc yX2_digit wsX2_digit rX2_digit cX2_digit 2 (some .int) 0 := ⟨⟨_, rfl⟩, rfl, rfl, by decide +kernel, by decide +kernel, by decide +kernel⟩
set_option maxHeartbeats 4000000 in
set_option maxRecDepth 10000 in
theorem kX2_digit (l : Launch) (D : va_G) (cI cC cS : ClassId) (h : Nat) (ad : Nat → Nat) (τ kd am sd q : Int → Int) (P le : Int)  (e6 : q 6 = P) (e1 : q 1 = le) (bpP : 0 ≤ P ∧ P ≤ 100) (ble : 0 ≤ le ∧ le ≤ 60) (bt : ∀ x : Int, 0 ≤ x → x < le → 0 ≤ τ x ∧ τ x ≤ 65535) : Ki l yX2_digit wsX2_digit rX2_digit D (tz cI cC cS) [.ref h] (tW cI cC h ad τ kd am sd q) (dgA τ le P) (tW cI cC h ad τ kd am sd q) := by
  have hcb := chA_b (le := le) (P := P) bpP.1 bt
  refine q_entry (cc := cX2_digit) (nL := 2) (ret := (some .int)) (by decide) ⟨_, rfl⟩ (Nat.le_of_ble_eq_true rfl) ?_
  intro A pr en s m args below meth c C hin w ls hl
  have w := w
  have hl : lv_has ls 2 [(0, .ref h)] := hl
  refine q_aload_n C hl dX2_digit_0 rfl 0 rfl ?_
  refine q_runi C w fr_all (q_V (As := []) (rest := []) C w fr_all fX2_character gX2_digit_X2_character rfl ⟨Nat.le_of_ble_eq_true rfl, Nat.le_of_ble_eq_true rfl⟩ (kX2_character l D cI cC cS h ad τ kd am sd q P le e6 e1 (by omega) (by omega) bt _) (q0 := 0) rfl rfl rfl rfl hl (Nat.le_of_ble_eq_true rfl) dX2_digit_1 ⟨Nat.le_refl 0, Nat.le_refl 0⟩) (fun H locs w => ?_)
  refine q_istore_n (lv' := [(1, .int (jj (chA τ le P))), (0, .ref h)]) C hl dX2_digit_4 rfl (by decide) rfl (fun ls hl => ?_)
  refine q_iload_n C hl dX2_digit_5 rfl 0 rfl ?_
  refine q_bipush C dX2_digit_6 (by decide) ?_
  refine q_bipush C dX2_digit_8 (by decide) ?_
  refine q_runi C w fr_nil (q_SN (As := [.int (jj (chA τ le P)), .int (jj 48), .int (jj 57)]) (rest := []) C w fr_nil fX3_isWithin gX2_digit_X3_isWithin_n53 C.N.2.2.2.2.2 (List.mem_of_getElem? (i := 10) rfl) (List.mem_of_getElem? (i := 9) rfl) ⟨Nat.le_of_ble_eq_true rfl, Nat.le_of_ble_eq_true rfl⟩ (kX3_isWithin l D cI cC cS (chA τ le P) 48 57 ⟨by omega, by omega⟩ ⟨by omega, by omega⟩ ⟨by omega, by omega⟩ _) rfl rfl hl (Nat.le_of_ble_eq_true rfl) dX2_digit_10 ⟨Nat.le_refl 0, Nat.le_refl 0⟩) (fun H locs w => ?_)
  refine q_ifz_eq (tgt := 23) C dX2_digit_13 (by decide) (fun c1 => ?_) (fun c1 => ?_)
  · have c1 := c1
    refine q_iconst C dX2_digit_23 ?_
    exact q_iret C w dX2_digit_24 (by unfold dgA; (repeat' split) <;> omega) rfl
  · have c1 := c1
    refine q_iload_n C hl dX2_digit_16 rfl 0 rfl ?_
    refine q_bipush C dX2_digit_17 (by decide) ?_
    refine q_isub C dX2_digit_19 ?_
    refine q_goto (tgt := 24) C dX2_digit_20 (by decide) ?_
    exact q_iret C w dX2_digit_24 (by unfold dgA; (repeat' split) <;> omega) rfl

def rX2_readNumber : Room := { frames := 2, cells := 0, slots := 0, locals := 43 }
theorem fX2_readNumber : Fc yX2_readNumber wsX2_readNumber rX2_readNumber cX2_readNumber 5 (some .int) 2 := ⟨⟨_, rfl⟩, rfl, rfl, by decide +kernel, by decide +kernel, by decide +kernel⟩
set_option maxHeartbeats 4000000 in
set_option maxRecDepth 10000 in
theorem kX2_readNumber_ok (l : Launch) (D : va_G) (cI cC cS : ClassId) (h : Nat) (ad : Nat → Nat) (τ kd am sd q : Int → Int) (P le : Int) (lw ms : Int) (e6 : q 6 = P) (e1 : q 1 = le) (bpP : 0 ≤ P ∧ P ≤ 100) (ble : 0 ≤ le ∧ le ≤ 60) (bt : ∀ x : Int, 0 ≤ x → x < le → 0 ≤ τ x ∧ τ x ≤ 65535) (hc : nok τ le P lw) (bls : 0 ≤ lw ∧ lw ≤ 1) (bms : 9 ≤ ms ∧ ms ≤ 99) : Ki l yX2_readNumber wsX2_readNumber rX2_readNumber D (tz cI cC cS) [.ref h, .int (jj lw), .int (jj ms)] (tW cI cC h ad τ kd am sd q) (nva τ le P ms) (tW cI cC h ad τ kd am sd (up q 6 (nen τ le P ms))) := by
  have hnb := nen_b (τ := τ) (le := le) (P := P) (ls := lw) (ms := ms) hc bls.1
  have hx0 := chA_ltr τ le (P)
  have hy0 : dgA τ le (P) = -1 ∧ ¬ (48 ≤ chA τ le (P) ∧ chA τ le (P) ≤ 57) ∨ dgA τ le (P) = chA τ le (P) - 48 ∧ (48 ≤ chA τ le (P) ∧ chA τ le (P) ≤ 57) := by unfold dgA; split <;> omega
  have hx1 := chA_ltr τ le (P + 1)
  have hy1 : dgA τ le (P + 1) = -1 ∧ ¬ (48 ≤ chA τ le (P + 1) ∧ chA τ le (P + 1) ≤ 57) ∨ dgA τ le (P + 1) = chA τ le (P + 1) - 48 ∧ (48 ≤ chA τ le (P + 1) ∧ chA τ le (P + 1) ≤ 57) := by unfold dgA; split <;> omega
  refine q_entry (cc := cX2_readNumber) (nL := 5) (ret := (some .int)) (by decide) ⟨_, rfl⟩ (Nat.le_of_ble_eq_true rfl) ?_
  intro A pr en s m args below meth c C hin w ls hl
  have w := w
  have hl : lv_has ls 5 [(0, .ref h), (1, .int (jj lw)), (2, .int (jj ms))] := hl
  refine q_aload_n C hl dX2_readNumber_0 rfl 0 rfl ?_
  refine q_runi C w fr_all (q_V (As := []) (rest := []) C w fr_all fX2_digit gX2_readNumber_X2_digit rfl ⟨Nat.le_of_ble_eq_true rfl, Nat.le_of_ble_eq_true rfl⟩ (kX2_digit l D cI cC cS h ad τ kd am sd q P le e6 e1 (by omega) (by omega) bt _) (q0 := 0) rfl rfl rfl rfl hl (Nat.le_of_ble_eq_true rfl) dX2_readNumber_1 ⟨Nat.le_refl 0, Nat.le_refl 0⟩) (fun H locs w => ?_)
  refine q_istore_n (lv' := [(3, .int (jj (dgA τ le P))), (0, .ref h), (1, .int (jj lw)), (2, .int (jj ms))]) C hl dX2_readNumber_4 rfl (by decide) rfl (fun ls hl => ?_)
  refine q_iload_n C hl dX2_readNumber_5 rfl 0 rfl ?_
  refine q_iload_n C hl dX2_readNumber_6 rfl 2 rfl ?_
  refine q_icmp_ge (tgt := 12) C dX2_readNumber_7 (by decide) ⟨by omega, by omega⟩ ⟨by omega, by omega⟩ (fun c1 => ?_) (fun c1 => ?_)
  · have c1 := c1
    refine q_aload_n C hl dX2_readNumber_12 rfl 1 rfl ?_
    refine q_dup C dX2_readNumber_13 rfl ?_
    refine q_getT (v := .int (jj P)) C w.1 (fun w h => List.mem_cons_of_mem _ (List.mem_append_right _ h)) 6 (by decide) (List.mem_of_getElem? (i := 1) rfl) (gt_v rfl e6) dX2_readNumber_14 ?_
    refine q_iconst C dX2_readNumber_17 ?_
    refine q_iadd C dX2_readNumber_18 ?_
    refine q_putT C w (fun w h => List.mem_cons_of_mem _ (List.mem_append_right _ h)) 6 (by decide) (List.mem_of_getElem? (i := 1) rfl) rfl rfl dX2_readNumber_19 (tP6 cI cC h ad _ _ _ _ _ _) (fun H locs w => ?_)
    have hz1 : P + 1 < le → chA τ le (P + 1) = τ (P + 1) := fun hh => chA_in hh
    refine q_aload_n C hl dX2_readNumber_22 rfl 1 rfl ?_
    refine q_runi C w fr_all (q_V (As := []) (rest := []) C w fr_all fX2_digit gX2_readNumber_X2_digit rfl ⟨Nat.le_of_ble_eq_true rfl, Nat.le_of_ble_eq_true rfl⟩ (kX2_digit l D cI cC cS h ad τ kd am sd (up q 6 (P + 1)) (P + 1) le rfl e1 (by omega) (by omega) bt _) (q0 := 0) rfl rfl rfl rfl hl (Nat.le_of_ble_eq_true rfl) dX2_readNumber_23 ⟨Nat.le_refl 0, Nat.le_refl 0⟩) (fun H locs w => ?_)
    refine q_istore (lv' := [(4, .int (jj (dgA τ le (P + 1)))), (3, .int (jj (dgA τ le P))), (0, .ref h), (1, .int (jj lw)), (2, .int (jj ms))]) C hl dX2_readNumber_26 (by decide) rfl (fun ls hl => ?_)
    refine q_iload_n C hl dX2_readNumber_28 rfl 1 rfl ?_
    refine q_if_eq (tgt := 49) C dX2_readNumber_29 (by decide) ⟨by omega, by omega⟩ (fun c2 => ?_) (fun c2 => ?_)
    · have c2 := c2
      refine q_iload_n C hl dX2_readNumber_49 rfl 1 rfl ?_
      exact q_iret C w dX2_readNumber_50 (by unfold nva; (repeat' split) <;> omega) (by have en : nen τ le P ms = P + 1 := if_neg (by omega); rw [en])
    · have c2 := c2
      refine q_iload C hl dX2_readNumber_32 0 rfl ?_
      refine q_iconst C dX2_readNumber_34 ?_
      refine q_icmp_eq (tgt := 49) C dX2_readNumber_35 (by decide) ⟨by omega, by omega⟩ ⟨by omega, by omega⟩ (fun c3 => ?_) (fun c3 => ?_)
      · have c3 := c3
        refine q_iload_n C hl dX2_readNumber_49 rfl 1 rfl ?_
        exact q_iret C w dX2_readNumber_50 (by unfold nva; (repeat' split) <;> omega) (by have en : nen τ le P ms = P + 1 := if_neg (by omega); rw [en])
      · have c3 := c3
        refine q_iload_n C hl dX2_readNumber_38 rfl 1 rfl ?_
        refine q_bipush C dX2_readNumber_39 (by decide) ?_
        refine q_imul C dX2_readNumber_41 ?_
        refine q_iload C hl dX2_readNumber_42 0 rfl ?_
        refine q_iadd C dX2_readNumber_44 ?_
        refine q_iload_n C hl dX2_readNumber_45 rfl 4 rfl ?_
        refine q_icmp_le (tgt := 51) C dX2_readNumber_46 (by decide) ⟨by omega, by omega⟩ ⟨by omega, by omega⟩ (fun c4 => ?_) (fun c4 => ?_)
        · have c4 := c4
          refine q_aload_n C hl dX2_readNumber_51 rfl 2 rfl ?_
          refine q_dup C dX2_readNumber_52 rfl ?_
          refine q_getT (v := .int (jj (P + 1))) C w.1 (fun w h => List.mem_cons_of_mem _ (List.mem_append_right _ h)) 6 (by decide) (List.mem_of_getElem? (i := 1) rfl) rfl dX2_readNumber_53 ?_
          refine q_iconst C dX2_readNumber_56 ?_
          refine q_iadd C dX2_readNumber_57 ?_
          refine q_putT C w (fun w h => List.mem_cons_of_mem _ (List.mem_append_right _ h)) 6 (by decide) (List.mem_of_getElem? (i := 1) rfl) rfl rfl dX2_readNumber_58 (tP6 cI cC h ad _ _ _ _ _ _) (fun H locs w => ?_)
          refine q_iload_n C hl dX2_readNumber_61 rfl 1 rfl ?_
          refine q_bipush C dX2_readNumber_62 (by decide) ?_
          refine q_imul C dX2_readNumber_64 ?_
          refine q_iload C hl dX2_readNumber_65 0 rfl ?_
          refine q_iadd C dX2_readNumber_67 ?_
          exact q_iret C w dX2_readNumber_68 (by unfold nva; (repeat' split) <;> omega) (by have en : nen τ le P ms = P + 2 := if_pos (by omega); rw [en, up_up, show P + 1 + 1 = P + 2 by omega])
        · have c4 := c4
          refine q_iload_n C hl dX2_readNumber_49 rfl 1 rfl ?_
          exact q_iret C w dX2_readNumber_50 (by unfold nva; (repeat' split) <;> omega) (by have en : nen τ le P ms = P + 1 := if_neg (by omega); rw [en])
  · exact absurd c1 (by omega)

set_option maxHeartbeats 4000000 in
set_option maxRecDepth 10000 in
theorem kX2_readNumber_bad (l : Launch) (D : va_G) (cI cC cS : ClassId) (h : Nat) (ad : Nat → Nat) (τ kd am sd q : Int → Int) (P le : Int) (lw ms : Int) (e6 : q 6 = P) (e1 : q 1 = le) (bpP : 0 ≤ P ∧ P ≤ 100) (ble : 0 ≤ le ∧ le ≤ 60) (bt : ∀ x : Int, 0 ≤ x → x < le → 0 ≤ τ x ∧ τ x ≤ 65535) (hc : ¬ nok τ le P lw) (bls : 0 ≤ lw ∧ lw ≤ 1) : Ki l yX2_readNumber wsX2_readNumber rX2_readNumber D (tz cI cC cS) [.ref h, .int (jj lw), .int (jj ms)] (tW cI cC h ad τ kd am sd q) (-1) (tW cI cC h ad τ kd am sd q) := by
  have hx0 := chA_ltr τ le (P)
  have hy0 : dgA τ le (P) = -1 ∧ ¬ (48 ≤ chA τ le (P) ∧ chA τ le (P) ≤ 57) ∨ dgA τ le (P) = chA τ le (P) - 48 ∧ (48 ≤ chA τ le (P) ∧ chA τ le (P) ≤ 57) := by unfold dgA; split <;> omega
  refine q_entry (cc := cX2_readNumber) (nL := 5) (ret := (some .int)) (by decide) ⟨_, rfl⟩ (Nat.le_of_ble_eq_true rfl) ?_
  intro A pr en s m args below meth c C hin w ls hl
  have w := w
  have hl : lv_has ls 5 [(0, .ref h), (1, .int (jj lw)), (2, .int (jj ms))] := hl
  refine q_aload_n C hl dX2_readNumber_0 rfl 0 rfl ?_
  refine q_runi C w fr_all (q_V (As := []) (rest := []) C w fr_all fX2_digit gX2_readNumber_X2_digit rfl ⟨Nat.le_of_ble_eq_true rfl, Nat.le_of_ble_eq_true rfl⟩ (kX2_digit l D cI cC cS h ad τ kd am sd q P le e6 e1 (by omega) (by omega) bt _) (q0 := 0) rfl rfl rfl rfl hl (Nat.le_of_ble_eq_true rfl) dX2_readNumber_1 ⟨Nat.le_refl 0, Nat.le_refl 0⟩) (fun H locs w => ?_)
  refine q_istore_n (lv' := [(3, .int (jj (dgA τ le P))), (0, .ref h), (1, .int (jj lw)), (2, .int (jj ms))]) C hl dX2_readNumber_4 rfl (by decide) rfl (fun ls hl => ?_)
  refine q_iload_n C hl dX2_readNumber_5 rfl 0 rfl ?_
  refine q_iload_n C hl dX2_readNumber_6 rfl 2 rfl ?_
  refine q_icmp_ge (tgt := 12) C dX2_readNumber_7 (by decide) ⟨by omega, by omega⟩ ⟨by omega, by omega⟩ (fun c1 => ?_) (fun c1 => ?_)
  · exact absurd c1 (by omega)
  · have c1 := c1
    refine q_iconst C dX2_readNumber_10 ?_
    exact q_iret C w dX2_readNumber_11 (by first | rfl | omega) rfl

def rX2_readSide : Room := { frames := 1, cells := 0, slots := 0, locals := 20 }
theorem fX2_readSide : Fc yX2_readSide wsX2_readSide rX2_readSide cX2_readSide 2 (some .int) 0 := ⟨⟨_, rfl⟩, rfl, rfl, by decide +kernel, by decide +kernel, by decide +kernel⟩
set_option maxHeartbeats 4000000 in
set_option maxRecDepth 10000 in
theorem kX2_readSide (l : Launch) (D : va_G) (cI cC cS : ClassId) (h : Nat) (ad : Nat → Nat) (τ kd am sd q : Int → Int) (P le : Int)  (e6 : q 6 = P) (e1 : q 1 = le) (bpP : 0 ≤ P ∧ P ≤ 100) (ble : 0 ≤ le ∧ le ≤ 60) (bt : ∀ x : Int, 0 ≤ x → x < le → 0 ≤ τ x ∧ τ x ≤ 65535) : Ki l yX2_readSide wsX2_readSide rX2_readSide D (tz cI cC cS) [.ref h] (tW cI cC h ad τ kd am sd q) (rsA τ le P) (tW cI cC h ad τ kd am sd (up q 6 (if 0 < rsA τ le P then P + 1 else P))) := by
  have hcb := chA_b (le := le) (P := P) bpP.1 bt
  refine q_entry (cc := cX2_readSide) (nL := 2) (ret := (some .int)) (by decide) ⟨_, rfl⟩ (Nat.le_of_ble_eq_true rfl) ?_
  intro A pr en s m args below meth c C hin w ls hl
  have w := w
  have hl : lv_has ls 2 [(0, .ref h)] := hl
  refine q_aload_n C hl dX2_readSide_0 rfl 0 rfl ?_
  refine q_runi C w fr_all (q_V (As := []) (rest := []) C w fr_all fX2_character gX2_readSide_X2_character rfl ⟨Nat.le_of_ble_eq_true rfl, Nat.le_of_ble_eq_true rfl⟩ (kX2_character l D cI cC cS h ad τ kd am sd q P le e6 e1 (by omega) (by omega) bt _) (q0 := 0) rfl rfl rfl rfl hl (Nat.le_of_ble_eq_true rfl) dX2_readSide_1 ⟨Nat.le_refl 0, Nat.le_refl 0⟩) (fun H locs w => ?_)
  refine q_istore_n (lv' := [(1, .int (jj (chA τ le P))), (0, .ref h)]) C hl dX2_readSide_4 rfl (by decide) rfl (fun ls hl => ?_)
  refine q_iload_n C hl dX2_readSide_5 rfl 0 rfl ?_
  refine q_bipush C dX2_readSide_6 (by decide) ?_
  refine q_icmp_eq (tgt := 19) C dX2_readSide_8 (by decide) ⟨by omega, by omega⟩ ⟨by omega, by omega⟩ (fun c1 => ?_) (fun c1 => ?_)
  · have c1 := c1
    refine q_aload_n C hl dX2_readSide_19 rfl 1 rfl ?_
    refine q_dup C dX2_readSide_20 rfl ?_
    refine q_getT (v := .int (jj P)) C w.1 (fun w h => List.mem_cons_of_mem _ (List.mem_append_right _ h)) 6 (by decide) (List.mem_of_getElem? (i := 1) rfl) (gt_v rfl e6) dX2_readSide_21 ?_
    refine q_iconst C dX2_readSide_24 ?_
    refine q_iadd C dX2_readSide_25 ?_
    refine q_putT C w (fun w h => List.mem_cons_of_mem _ (List.mem_append_right _ h)) 6 (by decide) (List.mem_of_getElem? (i := 1) rfl) rfl rfl dX2_readSide_26 (tP6 cI cC h ad _ _ _ _ _ _) (fun H locs w => ?_)
    refine q_iload_n C hl dX2_readSide_29 rfl 0 rfl ?_
    refine q_bipush C dX2_readSide_30 (by decide) ?_
    refine q_icmp_ne (tgt := 39) C dX2_readSide_32 (by decide) ⟨by omega, by omega⟩ ⟨by omega, by omega⟩ (fun z => absurd z (by omega)) (fun _ => ?_)
    refine q_iconst C dX2_readSide_35 ?_
    refine q_goto (tgt := 40) C dX2_readSide_36 (by decide) ?_
    exact q_iret C w dX2_readSide_40 (by unfold rsA; (repeat' split) <;> omega) (by have er : 0 < rsA τ le P := (by unfold rsA; (repeat' split) <;> omega); rw [if_pos er])
  · have c1 := c1
    refine q_iload_n C hl dX2_readSide_11 rfl 0 rfl ?_
    refine q_bipush C dX2_readSide_12 (by decide) ?_
    refine q_icmp_eq (tgt := 19) C dX2_readSide_14 (by decide) ⟨by omega, by omega⟩ ⟨by omega, by omega⟩ (fun c3 => ?_) (fun c3 => ?_)
    · have c3 := c3
      refine q_aload_n C hl dX2_readSide_19 rfl 1 rfl ?_
      refine q_dup C dX2_readSide_20 rfl ?_
      refine q_getT (v := .int (jj P)) C w.1 (fun w h => List.mem_cons_of_mem _ (List.mem_append_right _ h)) 6 (by decide) (List.mem_of_getElem? (i := 1) rfl) (gt_v rfl e6) dX2_readSide_21 ?_
      refine q_iconst C dX2_readSide_24 ?_
      refine q_iadd C dX2_readSide_25 ?_
      refine q_putT C w (fun w h => List.mem_cons_of_mem _ (List.mem_append_right _ h)) 6 (by decide) (List.mem_of_getElem? (i := 1) rfl) rfl rfl dX2_readSide_26 (tP6 cI cC h ad _ _ _ _ _ _) (fun H locs w => ?_)
      refine q_iload_n C hl dX2_readSide_29 rfl 0 rfl ?_
      refine q_bipush C dX2_readSide_30 (by decide) ?_
      refine q_icmp_ne (tgt := 39) C dX2_readSide_32 (by decide) ⟨by omega, by omega⟩ ⟨by omega, by omega⟩ (fun _ => ?_) (fun z => absurd z (by omega))
      refine q_iconst C dX2_readSide_39 ?_
      exact q_iret C w dX2_readSide_40 (by unfold rsA; (repeat' split) <;> omega) (by have er : 0 < rsA τ le P := (by unfold rsA; (repeat' split) <;> omega); rw [if_pos er])
    · have c3 := c3
      refine q_iconst C dX2_readSide_17 ?_
      exact q_iret C w dX2_readSide_18 (by unfold rsA; (repeat' split) <;> omega) (by have er : rsA τ le P = 0 := (by unfold rsA; (repeat' split) <;> omega); rw [er, if_neg (by omega), up_at e6])

def rX2_readThing : Room := { frames := 3, cells := 0, slots := 0, locals := 67 }
theorem fX2_readThing : Fc yX2_readThing wsX2_readThing rX2_readThing cX2_readThing 3 (some .boolean) 0 := ⟨⟨_, rfl⟩, rfl, rfl, by decide +kernel, by decide +kernel, by decide +kernel⟩
set_option maxHeartbeats 4000000 in
set_option maxRecDepth 10000 in
theorem kX2_readThing_ok (l : Launch) (D : va_G) (cI cC cS : ClassId) (h : Nat) (ad : Nat → Nat) (τ kd am sd q : Int → Int) (P le T : Int)  (e6 : q 6 = P) (e1 : q 1 = le) (e5 : q 5 = T) (bpP : 0 ≤ P ∧ P ≤ 100) (ble : 0 ≤ le ∧ le ≤ 60) (bt : ∀ x : Int, 0 ≤ x → x < le → 0 ≤ τ x ∧ τ x ≤ 65535) (bT : 0 ≤ T ∧ T < 30) (htok : tok τ le P) : Ki l yX2_readThing wsX2_readThing rX2_readThing D (tz cI cC cS) [.ref h] (tW cI cC h ad τ kd am sd q) (bI True) (tW cI cC h ad τ (up kd T (ltr τ le P)) (up am T (tnu τ le P)) (up sd T (tsi τ le P)) (up (up q 6 (ten τ le P)) 5 (T + 1))) := by
  have hlt := tok_lt htok
  have hx0 := chA_ltr τ le P
  have hl := ltr_b (le := le) (P := P) bpP.1 bt
  refine q_entry (cc := cX2_readThing) (nL := 3) (ret := (some .boolean)) (by decide) ⟨_, rfl⟩ (Nat.le_of_ble_eq_true rfl) ?_
  intro A pr en s m args below meth c C hin w ls hl
  have w := w
  have hl : lv_has ls 3 [(0, .ref h)] := hl
  refine q_aload_n C hl dX2_readThing_0 rfl 0 rfl ?_
  refine q_runi C w fr_all (q_V (As := []) (rest := []) C w fr_all fX2_character gX2_readThing_X2_character rfl ⟨Nat.le_of_ble_eq_true rfl, Nat.le_of_ble_eq_true rfl⟩ (kX2_character l D cI cC cS h ad τ kd am sd q P le e6 e1 (by omega) (by omega) bt _) (q0 := 0) rfl rfl rfl rfl hl (Nat.le_of_ble_eq_true rfl) dX2_readThing_1 ⟨Nat.le_refl 0, Nat.le_refl 0⟩) (fun H locs w => ?_)
  refine q_istore_n (lv' := [(1, .int (jj (chA τ le P))), (0, .ref h)]) C hl dX2_readThing_4 rfl (by decide) rfl (fun ls hl => ?_)
  refine q_iload_n C hl dX2_readThing_5 rfl 0 rfl ?_
  refine q_bipush C dX2_readThing_6 (by decide) ?_
  refine q_icmp_eq (tgt := 31) C dX2_readThing_8 (by decide) ⟨by omega, by omega⟩ ⟨by omega, by omega⟩ (fun c1 => ?_) (fun c1 => ?_)
  · have c1 := c1
    refine q_aload_n C hl dX2_readThing_31 rfl 1 rfl ?_
    refine q_dup C dX2_readThing_32 rfl ?_
    refine q_getT (v := .int (jj P)) C w.1 (fun w h => List.mem_cons_of_mem _ (List.mem_append_right _ h)) 6 (by decide) (List.mem_of_getElem? (i := 1) rfl) (gt_v rfl e6) dX2_readThing_33 ?_
    refine q_iconst C dX2_readThing_36 ?_
    refine q_iadd C dX2_readThing_37 ?_
    refine q_putT C w (fun w h => List.mem_cons_of_mem _ (List.mem_append_right _ h)) 6 (by decide) (List.mem_of_getElem? (i := 1) rfl) rfl rfl dX2_readThing_38 (tP6 cI cC h ad _ _ _ _ _ _) (fun H locs w => ?_)
    refine q_iconst C dX2_readThing_41 ?_
    refine q_istore_n (lv' := [(2, .int (jj 0)), (1, .int (jj (chA τ le P))), (0, .ref h)]) C hl dX2_readThing_42 rfl (by decide) rfl (fun ls hl => ?_)
    refine q_iload_n C hl dX2_readThing_43 rfl 1 rfl ?_
    refine q_bipush C dX2_readThing_44 (by decide) ?_
    refine q_icmp_ne (tgt := 60) C dX2_readThing_46 (by decide) ⟨by omega, by omega⟩ ⟨by omega, by omega⟩ (fun z => absurd z (by omega)) (fun _ => ?_)
    refine q_aload_n C hl dX2_readThing_49 rfl 2 rfl ?_
    refine q_iconst C dX2_readThing_50 ?_
    refine q_bipush C dX2_readThing_51 (by decide) ?_
    refine q_runi C w fr_all (q_V (As := [.int (jj 1), .int (jj 99)]) (rest := []) C w fr_all fX2_readNumber gX2_readThing_X2_readNumber rfl ⟨Nat.le_of_ble_eq_true rfl, Nat.le_of_ble_eq_true rfl⟩ (kX2_readNumber_ok l D cI cC cS h ad τ kd am sd (up q 6 (P + 1)) (P + 1) le 1 99 rfl e1 (by omega) (by omega) bt (by omega) (by omega) (by omega) _) (q0 := 0) rfl rfl rfl rfl hl (Nat.le_of_ble_eq_true rfl) dX2_readThing_53 ⟨Nat.le_refl 0, Nat.le_refl 0⟩) (fun H locs w => ?_)
    have hb := nen_b (τ := τ) (le := le) (P := P + 1) (ls := 1) (ms := 99) (by omega) (by omega)
    have hv := nva_b (τ := τ) (le := le) (P := P + 1) (ls := 1) (ms := 99) (by omega) (by omega) (by omega)
    refine q_istore_n (lv' := [(2, .int (jj (nva τ le (P + 1) 99))), (1, .int (jj (chA τ le P))), (0, .ref h)]) C hl dX2_readThing_56 rfl (by decide) rfl (fun ls hl => ?_)
    refine q_goto (tgt := 91) C dX2_readThing_57 (by decide) ?_
    refine q_iload_n C hl dX2_readThing_91 rfl 0 rfl ?_
    refine q_iconst C dX2_readThing_92 ?_
    refine q_icmp_ne (tgt := 98) C dX2_readThing_93 (by decide) ⟨by omega, by omega⟩ ⟨by omega, by omega⟩ (fun c3 => ?_) (fun c3 => ?_)
    · have c3 := c3
      refine q_aload_n C hl dX2_readThing_98 rfl 2 rfl ?_
      refine q_getT C w.1 (fun w h => List.mem_cons_of_mem _ (List.mem_append_right _ h)) 2 (by decide) (List.mem_of_getElem? (i := 2) rfl) rfl dX2_readThing_99 ?_
      refine q_aload_n C hl dX2_readThing_102 rfl 2 rfl ?_
      refine q_getT (v := .int (jj T)) C w.1 (fun w h => List.mem_cons_of_mem _ (List.mem_append_right _ h)) 5 (by decide) (List.mem_of_getElem? (i := 3) rfl) (gt_v rfl e5) dX2_readThing_103 ?_
      refine q_iload_n C hl dX2_readThing_106 rfl 1 rfl ?_
      refine q_i2c C dX2_readThing_107 ?_
      refine q_cast (ws' := tW cI cC h ad τ (up kd T ((chA τ le P) % 65536)) am sd (up (up q 6 (P + 1)) 6 (nen τ le (P + 1) 99))) (n := 30) (f := kd) C w 2 1 rfl rfl ⟨by omega, by omega, by omega⟩ ⟨by omega, by omega⟩ dX2_readThing_108 rfl (fun H locs w => ?_)
      refine q_aload_n C hl dX2_readThing_109 rfl 2 rfl ?_
      refine q_getT C w.1 (fun w h => List.mem_cons_of_mem _ (List.mem_append_right _ h)) 3 (by decide) (List.mem_of_getElem? (i := 4) rfl) rfl dX2_readThing_110 ?_
      refine q_aload_n C hl dX2_readThing_113 rfl 2 rfl ?_
      refine q_getT (v := .int (jj T)) C w.1 (fun w h => List.mem_cons_of_mem _ (List.mem_append_right _ h)) 5 (by decide) (List.mem_of_getElem? (i := 3) rfl) (gt_v rfl e5) dX2_readThing_114 ?_
      refine q_iload_n C hl dX2_readThing_117 rfl 0 rfl ?_
      refine q_iast (ws' := tW cI cC h ad τ (up kd T ((chA τ le P) % 65536)) (up am T (nva τ le (P + 1) 99)) sd (up (up q 6 (P + 1)) 6 (nen τ le (P + 1) 99))) (n := 30) (f := am) C w 3 0 rfl rfl ⟨by omega, by omega, by omega⟩ dX2_readThing_118 rfl (fun H locs w => ?_)
      refine q_aload_n C hl dX2_readThing_119 rfl 2 rfl ?_
      refine q_getT C w.1 (fun w h => List.mem_cons_of_mem _ (List.mem_append_right _ h)) 4 (by decide) (List.mem_of_getElem? (i := 5) rfl) rfl dX2_readThing_120 ?_
      refine q_aload_n C hl dX2_readThing_123 rfl 2 rfl ?_
      refine q_getT (v := .int (jj T)) C w.1 (fun w h => List.mem_cons_of_mem _ (List.mem_append_right _ h)) 5 (by decide) (List.mem_of_getElem? (i := 3) rfl) (gt_v rfl e5) dX2_readThing_124 ?_
      refine q_iload_n C hl dX2_readThing_127 rfl 1 rfl ?_
      refine q_bipush C dX2_readThing_128 (by decide) ?_
      refine q_icmp_ne (tgt := 140) C dX2_readThing_130 (by decide) ⟨by omega, by omega⟩ ⟨by omega, by omega⟩ (fun z => absurd z (by omega)) (fun _ => ?_)
      refine q_aload_n C hl dX2_readThing_133 rfl 2 rfl ?_
      refine q_runi C w fr_all (q_V (As := []) (rest := [.int (jj T), .ref (ad 4)]) C w fr_all fX2_readSide gX2_readThing_X2_readSide rfl ⟨Nat.le_of_ble_eq_true rfl, Nat.le_of_ble_eq_true rfl⟩ (kX2_readSide l D cI cC cS h ad τ (up kd T ((chA τ le P) % 65536)) (up am T (nva τ le (P + 1) 99)) sd (up (up q 6 (P + 1)) 6 (nen τ le (P + 1) 99)) (nen τ le (P + 1) 99) le rfl e1 (by omega) (by omega) bt _) (q0 := 0) rfl rfl rfl rfl hl (Nat.le_of_ble_eq_true rfl) dX2_readThing_134 ⟨Nat.le_refl 0, Nat.le_refl 0⟩) (fun H locs w => ?_)
      refine q_goto (tgt := 141) C dX2_readThing_137 (by decide) ?_
      refine q_iast (ws' := tW cI cC h ad τ (up kd T ((chA τ le P) % 65536)) (up am T (nva τ le (P + 1) 99)) (up sd T (rsA τ le (nen τ le (P + 1) 99))) (up (up (up q 6 (P + 1)) 6 (nen τ le (P + 1) 99)) 6 (if 0 < rsA τ le (nen τ le (P + 1) 99) then (nen τ le (P + 1) 99) + 1 else (nen τ le (P + 1) 99)))) (n := 30) (f := sd) C w 4 0 rfl rfl ⟨by omega, by omega, by omega⟩ dX2_readThing_141 rfl (fun H locs w => ?_)
      refine q_aload_n C hl dX2_readThing_142 rfl 2 rfl ?_
      refine q_dup C dX2_readThing_143 rfl ?_
      refine q_getT (v := .int (jj T)) C w.1 (fun w h => List.mem_cons_of_mem _ (List.mem_append_right _ h)) 5 (by decide) (List.mem_of_getElem? (i := 3) rfl) (gt_v rfl e5) dX2_readThing_144 ?_
      refine q_iconst C dX2_readThing_147 ?_
      refine q_iadd C dX2_readThing_148 ?_
      refine q_putT C w (fun w h => List.mem_cons_of_mem _ (List.mem_append_right _ h)) 5 (by decide) (List.mem_of_getElem? (i := 3) rfl) rfl rfl dX2_readThing_149 (tP5 cI cC h ad _ _ _ _ _ _) (fun H locs w => ?_)
      refine q_iconst C dX2_readThing_152 ?_
      exact q_zret C w dX2_readThing_153 (bI_t trivial).symm (by have v1 : tmi τ le P = nen τ le (P + 1) 99 := (by unfold tmi; (repeat' split) <;> omega); have v2 : tnu τ le P = (nva τ le (P + 1) 99) := (by unfold tnu; (repeat' split) <;> omega); have v3 : tsi τ le P = (rsA τ le (nen τ le (P + 1) 99)) := (by unfold tsi; rw [v1]; have hx := chA_ltr τ le (nen τ le (P + 1) 99); have hz : nen τ le (P + 1) 99 < le → ltr τ le (nen τ le (P + 1) 99) = τ (nen τ le (P + 1) 99) := (fun hh => ltr_in hh); unfold rsA; (repeat' split) <;> omega); have v4 : ten τ le P = if 0 < rsA τ le (nen τ le (P + 1) 99) then (nen τ le (P + 1) 99) + 1 else (nen τ le (P + 1) 99) := (by unfold ten; rw [v3, v1]); have v5 : ltr τ le P = ((chA τ le P) % 65536) := (by omega); rw [v2, v3, v4, v5] <;> (refine congrArg (fun z => tW cI cC h ad τ _ _ _ z) ?_; funext k; simp only [up]; (repeat' split) <;> first | rfl | omega))
    · exact absurd c3 (by omega)
  · have c1 := c1
    refine q_iload_n C hl dX2_readThing_11 rfl 0 rfl ?_
    refine q_bipush C dX2_readThing_12 (by decide) ?_
    refine q_icmp_eq (tgt := 31) C dX2_readThing_14 (by decide) ⟨by omega, by omega⟩ ⟨by omega, by omega⟩ (fun c5 => ?_) (fun c5 => ?_)
    · have c5 := c5
      refine q_aload_n C hl dX2_readThing_31 rfl 1 rfl ?_
      refine q_dup C dX2_readThing_32 rfl ?_
      refine q_getT (v := .int (jj P)) C w.1 (fun w h => List.mem_cons_of_mem _ (List.mem_append_right _ h)) 6 (by decide) (List.mem_of_getElem? (i := 1) rfl) (gt_v rfl e6) dX2_readThing_33 ?_
      refine q_iconst C dX2_readThing_36 ?_
      refine q_iadd C dX2_readThing_37 ?_
      refine q_putT C w (fun w h => List.mem_cons_of_mem _ (List.mem_append_right _ h)) 6 (by decide) (List.mem_of_getElem? (i := 1) rfl) rfl rfl dX2_readThing_38 (tP6 cI cC h ad _ _ _ _ _ _) (fun H locs w => ?_)
      refine q_iconst C dX2_readThing_41 ?_
      refine q_istore_n (lv' := [(2, .int (jj 0)), (1, .int (jj (chA τ le P))), (0, .ref h)]) C hl dX2_readThing_42 rfl (by decide) rfl (fun ls hl => ?_)
      refine q_iload_n C hl dX2_readThing_43 rfl 1 rfl ?_
      refine q_bipush C dX2_readThing_44 (by decide) ?_
      refine q_icmp_ne (tgt := 60) C dX2_readThing_46 (by decide) ⟨by omega, by omega⟩ ⟨by omega, by omega⟩ (fun _ => ?_) (fun z => absurd z (by omega))
      refine q_iload_n C hl dX2_readThing_60 rfl 1 rfl ?_
      refine q_bipush C dX2_readThing_61 (by decide) ?_
      refine q_icmp_ne (tgt := 77) C dX2_readThing_63 (by decide) ⟨by omega, by omega⟩ ⟨by omega, by omega⟩ (fun z => absurd z (by omega)) (fun _ => ?_)
      refine q_aload_n C hl dX2_readThing_66 rfl 2 rfl ?_
      refine q_iconst C dX2_readThing_67 ?_
      refine q_bipush C dX2_readThing_68 (by decide) ?_
      refine q_runi C w fr_all (q_V (As := [.int (jj 1), .int (jj 99)]) (rest := []) C w fr_all fX2_readNumber gX2_readThing_X2_readNumber rfl ⟨Nat.le_of_ble_eq_true rfl, Nat.le_of_ble_eq_true rfl⟩ (kX2_readNumber_ok l D cI cC cS h ad τ kd am sd (up q 6 (P + 1)) (P + 1) le 1 99 rfl e1 (by omega) (by omega) bt (by omega) (by omega) (by omega) _) (q0 := 0) rfl rfl rfl rfl hl (Nat.le_of_ble_eq_true rfl) dX2_readThing_70 ⟨Nat.le_refl 0, Nat.le_refl 0⟩) (fun H locs w => ?_)
      have hb := nen_b (τ := τ) (le := le) (P := P + 1) (ls := 1) (ms := 99) (by omega) (by omega)
      have hv := nva_b (τ := τ) (le := le) (P := P + 1) (ls := 1) (ms := 99) (by omega) (by omega) (by omega)
      refine q_istore_n (lv' := [(2, .int (jj (nva τ le (P + 1) 99))), (1, .int (jj (chA τ le P))), (0, .ref h)]) C hl dX2_readThing_73 rfl (by decide) rfl (fun ls hl => ?_)
      refine q_goto (tgt := 91) C dX2_readThing_74 (by decide) ?_
      refine q_iload_n C hl dX2_readThing_91 rfl 0 rfl ?_
      refine q_iconst C dX2_readThing_92 ?_
      refine q_icmp_ne (tgt := 98) C dX2_readThing_93 (by decide) ⟨by omega, by omega⟩ ⟨by omega, by omega⟩ (fun c8 => ?_) (fun c8 => ?_)
      · have c8 := c8
        refine q_aload_n C hl dX2_readThing_98 rfl 2 rfl ?_
        refine q_getT C w.1 (fun w h => List.mem_cons_of_mem _ (List.mem_append_right _ h)) 2 (by decide) (List.mem_of_getElem? (i := 2) rfl) rfl dX2_readThing_99 ?_
        refine q_aload_n C hl dX2_readThing_102 rfl 2 rfl ?_
        refine q_getT (v := .int (jj T)) C w.1 (fun w h => List.mem_cons_of_mem _ (List.mem_append_right _ h)) 5 (by decide) (List.mem_of_getElem? (i := 3) rfl) (gt_v rfl e5) dX2_readThing_103 ?_
        refine q_iload_n C hl dX2_readThing_106 rfl 1 rfl ?_
        refine q_i2c C dX2_readThing_107 ?_
        refine q_cast (ws' := tW cI cC h ad τ (up kd T ((chA τ le P) % 65536)) am sd (up (up q 6 (P + 1)) 6 (nen τ le (P + 1) 99))) (n := 30) (f := kd) C w 2 1 rfl rfl ⟨by omega, by omega, by omega⟩ ⟨by omega, by omega⟩ dX2_readThing_108 rfl (fun H locs w => ?_)
        refine q_aload_n C hl dX2_readThing_109 rfl 2 rfl ?_
        refine q_getT C w.1 (fun w h => List.mem_cons_of_mem _ (List.mem_append_right _ h)) 3 (by decide) (List.mem_of_getElem? (i := 4) rfl) rfl dX2_readThing_110 ?_
        refine q_aload_n C hl dX2_readThing_113 rfl 2 rfl ?_
        refine q_getT (v := .int (jj T)) C w.1 (fun w h => List.mem_cons_of_mem _ (List.mem_append_right _ h)) 5 (by decide) (List.mem_of_getElem? (i := 3) rfl) (gt_v rfl e5) dX2_readThing_114 ?_
        refine q_iload_n C hl dX2_readThing_117 rfl 0 rfl ?_
        refine q_iast (ws' := tW cI cC h ad τ (up kd T ((chA τ le P) % 65536)) (up am T (nva τ le (P + 1) 99)) sd (up (up q 6 (P + 1)) 6 (nen τ le (P + 1) 99))) (n := 30) (f := am) C w 3 0 rfl rfl ⟨by omega, by omega, by omega⟩ dX2_readThing_118 rfl (fun H locs w => ?_)
        refine q_aload_n C hl dX2_readThing_119 rfl 2 rfl ?_
        refine q_getT C w.1 (fun w h => List.mem_cons_of_mem _ (List.mem_append_right _ h)) 4 (by decide) (List.mem_of_getElem? (i := 5) rfl) rfl dX2_readThing_120 ?_
        refine q_aload_n C hl dX2_readThing_123 rfl 2 rfl ?_
        refine q_getT (v := .int (jj T)) C w.1 (fun w h => List.mem_cons_of_mem _ (List.mem_append_right _ h)) 5 (by decide) (List.mem_of_getElem? (i := 3) rfl) (gt_v rfl e5) dX2_readThing_124 ?_
        refine q_iload_n C hl dX2_readThing_127 rfl 1 rfl ?_
        refine q_bipush C dX2_readThing_128 (by decide) ?_
        refine q_icmp_ne (tgt := 140) C dX2_readThing_130 (by decide) ⟨by omega, by omega⟩ ⟨by omega, by omega⟩ (fun _ => ?_) (fun z => absurd z (by omega))
        refine q_iconst C dX2_readThing_140 ?_
        refine q_iast (ws' := tW cI cC h ad τ (up kd T ((chA τ le P) % 65536)) (up am T (nva τ le (P + 1) 99)) (up sd T 0) (up (up q 6 (P + 1)) 6 (nen τ le (P + 1) 99))) (n := 30) (f := sd) C w 4 0 rfl rfl ⟨by omega, by omega, by omega⟩ dX2_readThing_141 rfl (fun H locs w => ?_)
        refine q_aload_n C hl dX2_readThing_142 rfl 2 rfl ?_
        refine q_dup C dX2_readThing_143 rfl ?_
        refine q_getT (v := .int (jj T)) C w.1 (fun w h => List.mem_cons_of_mem _ (List.mem_append_right _ h)) 5 (by decide) (List.mem_of_getElem? (i := 3) rfl) (gt_v rfl e5) dX2_readThing_144 ?_
        refine q_iconst C dX2_readThing_147 ?_
        refine q_iadd C dX2_readThing_148 ?_
        refine q_putT C w (fun w h => List.mem_cons_of_mem _ (List.mem_append_right _ h)) 5 (by decide) (List.mem_of_getElem? (i := 3) rfl) rfl rfl dX2_readThing_149 (tP5 cI cC h ad _ _ _ _ _ _) (fun H locs w => ?_)
        refine q_iconst C dX2_readThing_152 ?_
        exact q_zret C w dX2_readThing_153 (bI_t trivial).symm (by have v1 : tmi τ le P = nen τ le (P + 1) 99 := (by unfold tmi; (repeat' split) <;> omega); have v2 : tnu τ le P = (nva τ le (P + 1) 99) := (by unfold tnu; (repeat' split) <;> omega); have v3 : tsi τ le P = 0 := (by unfold tsi; rw [v1]; (repeat' split) <;> omega); have v4 : ten τ le P = nen τ le (P + 1) 99 := (by unfold ten; rw [v3, v1] <;> rw [if_neg (by omega)]); have v5 : ltr τ le P = ((chA τ le P) % 65536) := (by omega); rw [v2, v3, v4, v5] <;> (refine congrArg (fun z => tW cI cC h ad τ _ _ _ z) ?_; funext k; simp only [up]; (repeat' split) <;> first | rfl | omega))
      · exact absurd c8 (by omega)
    · have c5 := c5
      refine q_iload_n C hl dX2_readThing_17 rfl 0 rfl ?_
      refine q_bipush C dX2_readThing_18 (by decide) ?_
      refine q_icmp_eq (tgt := 31) C dX2_readThing_20 (by decide) ⟨by omega, by omega⟩ ⟨by omega, by omega⟩ (fun c10 => ?_) (fun c10 => ?_)
      · have c10 := c10
        refine q_aload_n C hl dX2_readThing_31 rfl 1 rfl ?_
        refine q_dup C dX2_readThing_32 rfl ?_
        refine q_getT (v := .int (jj P)) C w.1 (fun w h => List.mem_cons_of_mem _ (List.mem_append_right _ h)) 6 (by decide) (List.mem_of_getElem? (i := 1) rfl) (gt_v rfl e6) dX2_readThing_33 ?_
        refine q_iconst C dX2_readThing_36 ?_
        refine q_iadd C dX2_readThing_37 ?_
        refine q_putT C w (fun w h => List.mem_cons_of_mem _ (List.mem_append_right _ h)) 6 (by decide) (List.mem_of_getElem? (i := 1) rfl) rfl rfl dX2_readThing_38 (tP6 cI cC h ad _ _ _ _ _ _) (fun H locs w => ?_)
        refine q_iconst C dX2_readThing_41 ?_
        refine q_istore_n (lv' := [(2, .int (jj 0)), (1, .int (jj (chA τ le P))), (0, .ref h)]) C hl dX2_readThing_42 rfl (by decide) rfl (fun ls hl => ?_)
        refine q_iload_n C hl dX2_readThing_43 rfl 1 rfl ?_
        refine q_bipush C dX2_readThing_44 (by decide) ?_
        refine q_icmp_ne (tgt := 60) C dX2_readThing_46 (by decide) ⟨by omega, by omega⟩ ⟨by omega, by omega⟩ (fun _ => ?_) (fun z => absurd z (by omega))
        refine q_iload_n C hl dX2_readThing_60 rfl 1 rfl ?_
        refine q_bipush C dX2_readThing_61 (by decide) ?_
        refine q_icmp_ne (tgt := 77) C dX2_readThing_63 (by decide) ⟨by omega, by omega⟩ ⟨by omega, by omega⟩ (fun _ => ?_) (fun z => absurd z (by omega))
        refine q_iload_n C hl dX2_readThing_77 rfl 1 rfl ?_
        refine q_bipush C dX2_readThing_78 (by decide) ?_
        refine q_icmp_ne (tgt := 91) C dX2_readThing_80 (by decide) ⟨by omega, by omega⟩ ⟨by omega, by omega⟩ (fun _ => ?_) (fun z => absurd z (by omega))
        refine q_iload_n C hl dX2_readThing_91 rfl 0 rfl ?_
        refine q_iconst C dX2_readThing_92 ?_
        refine q_icmp_ne (tgt := 98) C dX2_readThing_93 (by decide) ⟨by omega, by omega⟩ ⟨by omega, by omega⟩ (fun _ => ?_) (fun z => absurd z (by omega))
        refine q_aload_n C hl dX2_readThing_98 rfl 2 rfl ?_
        refine q_getT C w.1 (fun w h => List.mem_cons_of_mem _ (List.mem_append_right _ h)) 2 (by decide) (List.mem_of_getElem? (i := 2) rfl) rfl dX2_readThing_99 ?_
        refine q_aload_n C hl dX2_readThing_102 rfl 2 rfl ?_
        refine q_getT (v := .int (jj T)) C w.1 (fun w h => List.mem_cons_of_mem _ (List.mem_append_right _ h)) 5 (by decide) (List.mem_of_getElem? (i := 3) rfl) (gt_v rfl e5) dX2_readThing_103 ?_
        refine q_iload_n C hl dX2_readThing_106 rfl 1 rfl ?_
        refine q_i2c C dX2_readThing_107 ?_
        refine q_cast (ws' := tW cI cC h ad τ (up kd T ((chA τ le P) % 65536)) am sd (up q 6 (P + 1))) (n := 30) (f := kd) C w 2 1 rfl rfl ⟨by omega, by omega, by omega⟩ ⟨by omega, by omega⟩ dX2_readThing_108 rfl (fun H locs w => ?_)
        refine q_aload_n C hl dX2_readThing_109 rfl 2 rfl ?_
        refine q_getT C w.1 (fun w h => List.mem_cons_of_mem _ (List.mem_append_right _ h)) 3 (by decide) (List.mem_of_getElem? (i := 4) rfl) rfl dX2_readThing_110 ?_
        refine q_aload_n C hl dX2_readThing_113 rfl 2 rfl ?_
        refine q_getT (v := .int (jj T)) C w.1 (fun w h => List.mem_cons_of_mem _ (List.mem_append_right _ h)) 5 (by decide) (List.mem_of_getElem? (i := 3) rfl) (gt_v rfl e5) dX2_readThing_114 ?_
        refine q_iload_n C hl dX2_readThing_117 rfl 0 rfl ?_
        refine q_iast (ws' := tW cI cC h ad τ (up kd T ((chA τ le P) % 65536)) (up am T 0) sd (up q 6 (P + 1))) (n := 30) (f := am) C w 3 0 rfl rfl ⟨by omega, by omega, by omega⟩ dX2_readThing_118 rfl (fun H locs w => ?_)
        refine q_aload_n C hl dX2_readThing_119 rfl 2 rfl ?_
        refine q_getT C w.1 (fun w h => List.mem_cons_of_mem _ (List.mem_append_right _ h)) 4 (by decide) (List.mem_of_getElem? (i := 5) rfl) rfl dX2_readThing_120 ?_
        refine q_aload_n C hl dX2_readThing_123 rfl 2 rfl ?_
        refine q_getT (v := .int (jj T)) C w.1 (fun w h => List.mem_cons_of_mem _ (List.mem_append_right _ h)) 5 (by decide) (List.mem_of_getElem? (i := 3) rfl) (gt_v rfl e5) dX2_readThing_124 ?_
        refine q_iload_n C hl dX2_readThing_127 rfl 1 rfl ?_
        refine q_bipush C dX2_readThing_128 (by decide) ?_
        refine q_icmp_ne (tgt := 140) C dX2_readThing_130 (by decide) ⟨by omega, by omega⟩ ⟨by omega, by omega⟩ (fun _ => ?_) (fun z => absurd z (by omega))
        refine q_iconst C dX2_readThing_140 ?_
        refine q_iast (ws' := tW cI cC h ad τ (up kd T ((chA τ le P) % 65536)) (up am T 0) (up sd T 0) (up q 6 (P + 1))) (n := 30) (f := sd) C w 4 0 rfl rfl ⟨by omega, by omega, by omega⟩ dX2_readThing_141 rfl (fun H locs w => ?_)
        refine q_aload_n C hl dX2_readThing_142 rfl 2 rfl ?_
        refine q_dup C dX2_readThing_143 rfl ?_
        refine q_getT (v := .int (jj T)) C w.1 (fun w h => List.mem_cons_of_mem _ (List.mem_append_right _ h)) 5 (by decide) (List.mem_of_getElem? (i := 3) rfl) (gt_v rfl e5) dX2_readThing_144 ?_
        refine q_iconst C dX2_readThing_147 ?_
        refine q_iadd C dX2_readThing_148 ?_
        refine q_putT C w (fun w h => List.mem_cons_of_mem _ (List.mem_append_right _ h)) 5 (by decide) (List.mem_of_getElem? (i := 3) rfl) rfl rfl dX2_readThing_149 (tP5 cI cC h ad _ _ _ _ _ _) (fun H locs w => ?_)
        refine q_iconst C dX2_readThing_152 ?_
        exact q_zret C w dX2_readThing_153 (bI_t trivial).symm (by have v1 : tmi τ le P = P + 1 := (by unfold tmi; (repeat' split) <;> omega); have v2 : tnu τ le P = 0 := (by unfold tnu; (repeat' split) <;> omega); have v3 : tsi τ le P = 0 := (by unfold tsi; rw [v1]; (repeat' split) <;> omega); have v4 : ten τ le P = P + 1 := (by unfold ten; rw [v3, v1] <;> rw [if_neg (by omega)]); have v5 : ltr τ le P = ((chA τ le P) % 65536) := (by omega); rw [v2, v3, v4, v5] <;> (refine congrArg (fun z => tW cI cC h ad τ _ _ _ z) ?_; funext k; simp only [up]; (repeat' split) <;> first | rfl | omega))
      · have c10 := c10
        refine q_iload_n C hl dX2_readThing_23 rfl 0 rfl ?_
        refine q_bipush C dX2_readThing_24 (by decide) ?_
        refine q_icmp_eq (tgt := 31) C dX2_readThing_26 (by decide) ⟨by omega, by omega⟩ ⟨by omega, by omega⟩ (fun c16 => ?_) (fun c16 => ?_)
        · have c16 := c16
          refine q_aload_n C hl dX2_readThing_31 rfl 1 rfl ?_
          refine q_dup C dX2_readThing_32 rfl ?_
          refine q_getT (v := .int (jj P)) C w.1 (fun w h => List.mem_cons_of_mem _ (List.mem_append_right _ h)) 6 (by decide) (List.mem_of_getElem? (i := 1) rfl) (gt_v rfl e6) dX2_readThing_33 ?_
          refine q_iconst C dX2_readThing_36 ?_
          refine q_iadd C dX2_readThing_37 ?_
          refine q_putT C w (fun w h => List.mem_cons_of_mem _ (List.mem_append_right _ h)) 6 (by decide) (List.mem_of_getElem? (i := 1) rfl) rfl rfl dX2_readThing_38 (tP6 cI cC h ad _ _ _ _ _ _) (fun H locs w => ?_)
          refine q_iconst C dX2_readThing_41 ?_
          refine q_istore_n (lv' := [(2, .int (jj 0)), (1, .int (jj (chA τ le P))), (0, .ref h)]) C hl dX2_readThing_42 rfl (by decide) rfl (fun ls hl => ?_)
          refine q_iload_n C hl dX2_readThing_43 rfl 1 rfl ?_
          refine q_bipush C dX2_readThing_44 (by decide) ?_
          refine q_icmp_ne (tgt := 60) C dX2_readThing_46 (by decide) ⟨by omega, by omega⟩ ⟨by omega, by omega⟩ (fun _ => ?_) (fun z => absurd z (by omega))
          refine q_iload_n C hl dX2_readThing_60 rfl 1 rfl ?_
          refine q_bipush C dX2_readThing_61 (by decide) ?_
          refine q_icmp_ne (tgt := 77) C dX2_readThing_63 (by decide) ⟨by omega, by omega⟩ ⟨by omega, by omega⟩ (fun _ => ?_) (fun z => absurd z (by omega))
          refine q_iload_n C hl dX2_readThing_77 rfl 1 rfl ?_
          refine q_bipush C dX2_readThing_78 (by decide) ?_
          refine q_icmp_ne (tgt := 91) C dX2_readThing_80 (by decide) ⟨by omega, by omega⟩ ⟨by omega, by omega⟩ (fun z => absurd z (by omega)) (fun _ => ?_)
          refine q_aload_n C hl dX2_readThing_83 rfl 2 rfl ?_
          refine q_iconst C dX2_readThing_84 ?_
          refine q_bipush C dX2_readThing_85 (by decide) ?_
          refine q_runi C w fr_all (q_V (As := [.int (jj 0), .int (jj 15)]) (rest := []) C w fr_all fX2_readNumber gX2_readThing_X2_readNumber rfl ⟨Nat.le_of_ble_eq_true rfl, Nat.le_of_ble_eq_true rfl⟩ (kX2_readNumber_ok l D cI cC cS h ad τ kd am sd (up q 6 (P + 1)) (P + 1) le 0 15 rfl e1 (by omega) (by omega) bt (by omega) (by omega) (by omega) _) (q0 := 0) rfl rfl rfl rfl hl (Nat.le_of_ble_eq_true rfl) dX2_readThing_87 ⟨Nat.le_refl 0, Nat.le_refl 0⟩) (fun H locs w => ?_)
          have hb := nen_b (τ := τ) (le := le) (P := P + 1) (ls := 0) (ms := 15) (by omega) (by omega)
          have hv := nva_b (τ := τ) (le := le) (P := P + 1) (ls := 0) (ms := 15) (by omega) (by omega) (by omega)
          refine q_istore_n (lv' := [(2, .int (jj (nva τ le (P + 1) 15))), (1, .int (jj (chA τ le P))), (0, .ref h)]) C hl dX2_readThing_90 rfl (by decide) rfl (fun ls hl => ?_)
          refine q_iload_n C hl dX2_readThing_91 rfl 0 rfl ?_
          refine q_iconst C dX2_readThing_92 ?_
          refine q_icmp_ne (tgt := 98) C dX2_readThing_93 (by decide) ⟨by omega, by omega⟩ ⟨by omega, by omega⟩ (fun c20 => ?_) (fun c20 => ?_)
          · have c20 := c20
            refine q_aload_n C hl dX2_readThing_98 rfl 2 rfl ?_
            refine q_getT C w.1 (fun w h => List.mem_cons_of_mem _ (List.mem_append_right _ h)) 2 (by decide) (List.mem_of_getElem? (i := 2) rfl) rfl dX2_readThing_99 ?_
            refine q_aload_n C hl dX2_readThing_102 rfl 2 rfl ?_
            refine q_getT (v := .int (jj T)) C w.1 (fun w h => List.mem_cons_of_mem _ (List.mem_append_right _ h)) 5 (by decide) (List.mem_of_getElem? (i := 3) rfl) (gt_v rfl e5) dX2_readThing_103 ?_
            refine q_iload_n C hl dX2_readThing_106 rfl 1 rfl ?_
            refine q_i2c C dX2_readThing_107 ?_
            refine q_cast (ws' := tW cI cC h ad τ (up kd T ((chA τ le P) % 65536)) am sd (up (up q 6 (P + 1)) 6 (nen τ le (P + 1) 15))) (n := 30) (f := kd) C w 2 1 rfl rfl ⟨by omega, by omega, by omega⟩ ⟨by omega, by omega⟩ dX2_readThing_108 rfl (fun H locs w => ?_)
            refine q_aload_n C hl dX2_readThing_109 rfl 2 rfl ?_
            refine q_getT C w.1 (fun w h => List.mem_cons_of_mem _ (List.mem_append_right _ h)) 3 (by decide) (List.mem_of_getElem? (i := 4) rfl) rfl dX2_readThing_110 ?_
            refine q_aload_n C hl dX2_readThing_113 rfl 2 rfl ?_
            refine q_getT (v := .int (jj T)) C w.1 (fun w h => List.mem_cons_of_mem _ (List.mem_append_right _ h)) 5 (by decide) (List.mem_of_getElem? (i := 3) rfl) (gt_v rfl e5) dX2_readThing_114 ?_
            refine q_iload_n C hl dX2_readThing_117 rfl 0 rfl ?_
            refine q_iast (ws' := tW cI cC h ad τ (up kd T ((chA τ le P) % 65536)) (up am T (nva τ le (P + 1) 15)) sd (up (up q 6 (P + 1)) 6 (nen τ le (P + 1) 15))) (n := 30) (f := am) C w 3 0 rfl rfl ⟨by omega, by omega, by omega⟩ dX2_readThing_118 rfl (fun H locs w => ?_)
            refine q_aload_n C hl dX2_readThing_119 rfl 2 rfl ?_
            refine q_getT C w.1 (fun w h => List.mem_cons_of_mem _ (List.mem_append_right _ h)) 4 (by decide) (List.mem_of_getElem? (i := 5) rfl) rfl dX2_readThing_120 ?_
            refine q_aload_n C hl dX2_readThing_123 rfl 2 rfl ?_
            refine q_getT (v := .int (jj T)) C w.1 (fun w h => List.mem_cons_of_mem _ (List.mem_append_right _ h)) 5 (by decide) (List.mem_of_getElem? (i := 3) rfl) (gt_v rfl e5) dX2_readThing_124 ?_
            refine q_iload_n C hl dX2_readThing_127 rfl 1 rfl ?_
            refine q_bipush C dX2_readThing_128 (by decide) ?_
            refine q_icmp_ne (tgt := 140) C dX2_readThing_130 (by decide) ⟨by omega, by omega⟩ ⟨by omega, by omega⟩ (fun _ => ?_) (fun z => absurd z (by omega))
            refine q_iconst C dX2_readThing_140 ?_
            refine q_iast (ws' := tW cI cC h ad τ (up kd T ((chA τ le P) % 65536)) (up am T (nva τ le (P + 1) 15)) (up sd T 0) (up (up q 6 (P + 1)) 6 (nen τ le (P + 1) 15))) (n := 30) (f := sd) C w 4 0 rfl rfl ⟨by omega, by omega, by omega⟩ dX2_readThing_141 rfl (fun H locs w => ?_)
            refine q_aload_n C hl dX2_readThing_142 rfl 2 rfl ?_
            refine q_dup C dX2_readThing_143 rfl ?_
            refine q_getT (v := .int (jj T)) C w.1 (fun w h => List.mem_cons_of_mem _ (List.mem_append_right _ h)) 5 (by decide) (List.mem_of_getElem? (i := 3) rfl) (gt_v rfl e5) dX2_readThing_144 ?_
            refine q_iconst C dX2_readThing_147 ?_
            refine q_iadd C dX2_readThing_148 ?_
            refine q_putT C w (fun w h => List.mem_cons_of_mem _ (List.mem_append_right _ h)) 5 (by decide) (List.mem_of_getElem? (i := 3) rfl) rfl rfl dX2_readThing_149 (tP5 cI cC h ad _ _ _ _ _ _) (fun H locs w => ?_)
            refine q_iconst C dX2_readThing_152 ?_
            exact q_zret C w dX2_readThing_153 (bI_t trivial).symm (by have v1 : tmi τ le P = nen τ le (P + 1) 15 := (by unfold tmi; (repeat' split) <;> omega); have v2 : tnu τ le P = (nva τ le (P + 1) 15) := (by unfold tnu; (repeat' split) <;> omega); have v3 : tsi τ le P = 0 := (by unfold tsi; rw [v1]; (repeat' split) <;> omega); have v4 : ten τ le P = nen τ le (P + 1) 15 := (by unfold ten; rw [v3, v1] <;> rw [if_neg (by omega)]); have v5 : ltr τ le P = ((chA τ le P) % 65536) := (by omega); rw [v2, v3, v4, v5] <;> (refine congrArg (fun z => tW cI cC h ad τ _ _ _ z) ?_; funext k; simp only [up]; (repeat' split) <;> first | rfl | omega))
          · exact absurd c20 (by omega)
        · exact absurd c16 (by omega)

set_option maxHeartbeats 4000000 in
set_option maxRecDepth 10000 in
theorem kX2_readThing_bad (l : Launch) (D : va_G) (cI cC cS : ClassId) (h : Nat) (ad : Nat → Nat) (τ kd am sd q : Int → Int) (P le T : Int)  (e6 : q 6 = P) (e1 : q 1 = le) (e5 : q 5 = T) (bpP : 0 ≤ P ∧ P ≤ 100) (ble : 0 ≤ le ∧ le ≤ 60) (bt : ∀ x : Int, 0 ≤ x → x < le → 0 ≤ τ x ∧ τ x ≤ 65535) (htok : ¬ tok τ le P) : Ki l yX2_readThing wsX2_readThing rX2_readThing D (tz cI cC cS) [.ref h] (tW cI cC h ad τ kd am sd q) (bI False) (tW cI cC h ad τ kd am sd (up q 6 (tfl τ le P))) := by
  have hx0 := chA_ltr τ le P
  have hl := ltr_b (le := le) (P := P) bpP.1 bt
  refine q_entry (cc := cX2_readThing) (nL := 3) (ret := (some .boolean)) (by decide) ⟨_, rfl⟩ (Nat.le_of_ble_eq_true rfl) ?_
  intro A pr en s m args below meth c C hin w ls hl
  have w := w
  have hl : lv_has ls 3 [(0, .ref h)] := hl
  refine q_aload_n C hl dX2_readThing_0 rfl 0 rfl ?_
  refine q_runi C w fr_all (q_V (As := []) (rest := []) C w fr_all fX2_character gX2_readThing_X2_character rfl ⟨Nat.le_of_ble_eq_true rfl, Nat.le_of_ble_eq_true rfl⟩ (kX2_character l D cI cC cS h ad τ kd am sd q P le e6 e1 (by omega) (by omega) bt _) (q0 := 0) rfl rfl rfl rfl hl (Nat.le_of_ble_eq_true rfl) dX2_readThing_1 ⟨Nat.le_refl 0, Nat.le_refl 0⟩) (fun H locs w => ?_)
  refine q_istore_n (lv' := [(1, .int (jj (chA τ le P))), (0, .ref h)]) C hl dX2_readThing_4 rfl (by decide) rfl (fun ls hl => ?_)
  refine q_iload_n C hl dX2_readThing_5 rfl 0 rfl ?_
  refine q_bipush C dX2_readThing_6 (by decide) ?_
  refine q_icmp_eq (tgt := 31) C dX2_readThing_8 (by decide) ⟨by omega, by omega⟩ ⟨by omega, by omega⟩ (fun c1 => ?_) (fun c1 => ?_)
  · have c1 := c1
    refine q_aload_n C hl dX2_readThing_31 rfl 1 rfl ?_
    refine q_dup C dX2_readThing_32 rfl ?_
    refine q_getT (v := .int (jj P)) C w.1 (fun w h => List.mem_cons_of_mem _ (List.mem_append_right _ h)) 6 (by decide) (List.mem_of_getElem? (i := 1) rfl) (gt_v rfl e6) dX2_readThing_33 ?_
    refine q_iconst C dX2_readThing_36 ?_
    refine q_iadd C dX2_readThing_37 ?_
    refine q_putT C w (fun w h => List.mem_cons_of_mem _ (List.mem_append_right _ h)) 6 (by decide) (List.mem_of_getElem? (i := 1) rfl) rfl rfl dX2_readThing_38 (tP6 cI cC h ad _ _ _ _ _ _) (fun H locs w => ?_)
    refine q_iconst C dX2_readThing_41 ?_
    refine q_istore_n (lv' := [(2, .int (jj 0)), (1, .int (jj (chA τ le P))), (0, .ref h)]) C hl dX2_readThing_42 rfl (by decide) rfl (fun ls hl => ?_)
    refine q_iload_n C hl dX2_readThing_43 rfl 1 rfl ?_
    refine q_bipush C dX2_readThing_44 (by decide) ?_
    refine q_icmp_ne (tgt := 60) C dX2_readThing_46 (by decide) ⟨by omega, by omega⟩ ⟨by omega, by omega⟩ (fun z => absurd z (by omega)) (fun _ => ?_)
    refine q_aload_n C hl dX2_readThing_49 rfl 2 rfl ?_
    refine q_iconst C dX2_readThing_50 ?_
    refine q_bipush C dX2_readThing_51 (by decide) ?_
    refine q_runi C w fr_all (q_V (As := [.int (jj 1), .int (jj 99)]) (rest := []) C w fr_all fX2_readNumber gX2_readThing_X2_readNumber rfl ⟨Nat.le_of_ble_eq_true rfl, Nat.le_of_ble_eq_true rfl⟩ (kX2_readNumber_bad l D cI cC cS h ad τ kd am sd (up q 6 (P + 1)) (P + 1) le 1 99 rfl e1 (by omega) (by omega) bt (by omega) (by omega) _) (q0 := 0) rfl rfl rfl rfl hl (Nat.le_of_ble_eq_true rfl) dX2_readThing_53 ⟨Nat.le_refl 0, Nat.le_refl 0⟩) (fun H locs w => ?_)
    refine q_istore_n (lv' := [(2, .int (jj (-1))), (1, .int (jj (chA τ le P))), (0, .ref h)]) C hl dX2_readThing_56 rfl (by decide) rfl (fun ls hl => ?_)
    refine q_goto (tgt := 91) C dX2_readThing_57 (by decide) ?_
    refine q_iload_n C hl dX2_readThing_91 rfl 0 rfl ?_
    refine q_iconst C dX2_readThing_92 ?_
    refine q_icmp_ne (tgt := 98) C dX2_readThing_93 (by decide) ⟨by omega, by omega⟩ ⟨by omega, by omega⟩ (fun z => absurd z (by omega)) (fun _ => ?_)
    refine q_iconst C dX2_readThing_96 ?_
    exact q_zret C w dX2_readThing_97 (bI_f id).symm (by have ef : tfl τ le P = P + 1 := if_pos (by omega); rw [ef])
  · have c1 := c1
    refine q_iload_n C hl dX2_readThing_11 rfl 0 rfl ?_
    refine q_bipush C dX2_readThing_12 (by decide) ?_
    refine q_icmp_eq (tgt := 31) C dX2_readThing_14 (by decide) ⟨by omega, by omega⟩ ⟨by omega, by omega⟩ (fun c4 => ?_) (fun c4 => ?_)
    · have c4 := c4
      refine q_aload_n C hl dX2_readThing_31 rfl 1 rfl ?_
      refine q_dup C dX2_readThing_32 rfl ?_
      refine q_getT (v := .int (jj P)) C w.1 (fun w h => List.mem_cons_of_mem _ (List.mem_append_right _ h)) 6 (by decide) (List.mem_of_getElem? (i := 1) rfl) (gt_v rfl e6) dX2_readThing_33 ?_
      refine q_iconst C dX2_readThing_36 ?_
      refine q_iadd C dX2_readThing_37 ?_
      refine q_putT C w (fun w h => List.mem_cons_of_mem _ (List.mem_append_right _ h)) 6 (by decide) (List.mem_of_getElem? (i := 1) rfl) rfl rfl dX2_readThing_38 (tP6 cI cC h ad _ _ _ _ _ _) (fun H locs w => ?_)
      refine q_iconst C dX2_readThing_41 ?_
      refine q_istore_n (lv' := [(2, .int (jj 0)), (1, .int (jj (chA τ le P))), (0, .ref h)]) C hl dX2_readThing_42 rfl (by decide) rfl (fun ls hl => ?_)
      refine q_iload_n C hl dX2_readThing_43 rfl 1 rfl ?_
      refine q_bipush C dX2_readThing_44 (by decide) ?_
      refine q_icmp_ne (tgt := 60) C dX2_readThing_46 (by decide) ⟨by omega, by omega⟩ ⟨by omega, by omega⟩ (fun _ => ?_) (fun z => absurd z (by omega))
      refine q_iload_n C hl dX2_readThing_60 rfl 1 rfl ?_
      refine q_bipush C dX2_readThing_61 (by decide) ?_
      refine q_icmp_ne (tgt := 77) C dX2_readThing_63 (by decide) ⟨by omega, by omega⟩ ⟨by omega, by omega⟩ (fun z => absurd z (by omega)) (fun _ => ?_)
      refine q_aload_n C hl dX2_readThing_66 rfl 2 rfl ?_
      refine q_iconst C dX2_readThing_67 ?_
      refine q_bipush C dX2_readThing_68 (by decide) ?_
      refine q_runi C w fr_all (q_V (As := [.int (jj 1), .int (jj 99)]) (rest := []) C w fr_all fX2_readNumber gX2_readThing_X2_readNumber rfl ⟨Nat.le_of_ble_eq_true rfl, Nat.le_of_ble_eq_true rfl⟩ (kX2_readNumber_bad l D cI cC cS h ad τ kd am sd (up q 6 (P + 1)) (P + 1) le 1 99 rfl e1 (by omega) (by omega) bt (by omega) (by omega) _) (q0 := 0) rfl rfl rfl rfl hl (Nat.le_of_ble_eq_true rfl) dX2_readThing_70 ⟨Nat.le_refl 0, Nat.le_refl 0⟩) (fun H locs w => ?_)
      refine q_istore_n (lv' := [(2, .int (jj (-1))), (1, .int (jj (chA τ le P))), (0, .ref h)]) C hl dX2_readThing_73 rfl (by decide) rfl (fun ls hl => ?_)
      refine q_goto (tgt := 91) C dX2_readThing_74 (by decide) ?_
      refine q_iload_n C hl dX2_readThing_91 rfl 0 rfl ?_
      refine q_iconst C dX2_readThing_92 ?_
      refine q_icmp_ne (tgt := 98) C dX2_readThing_93 (by decide) ⟨by omega, by omega⟩ ⟨by omega, by omega⟩ (fun z => absurd z (by omega)) (fun _ => ?_)
      refine q_iconst C dX2_readThing_96 ?_
      exact q_zret C w dX2_readThing_97 (bI_f id).symm (by have ef : tfl τ le P = P + 1 := if_pos (by omega); rw [ef])
    · have c4 := c4
      refine q_iload_n C hl dX2_readThing_17 rfl 0 rfl ?_
      refine q_bipush C dX2_readThing_18 (by decide) ?_
      refine q_icmp_eq (tgt := 31) C dX2_readThing_20 (by decide) ⟨by omega, by omega⟩ ⟨by omega, by omega⟩ (fun c8 => ?_) (fun c8 => ?_)
      · exact absurd c8 (by omega)
      · have c8 := c8
        refine q_iload_n C hl dX2_readThing_23 rfl 0 rfl ?_
        refine q_bipush C dX2_readThing_24 (by decide) ?_
        refine q_icmp_eq (tgt := 31) C dX2_readThing_26 (by decide) ⟨by omega, by omega⟩ ⟨by omega, by omega⟩ (fun c9 => ?_) (fun c9 => ?_)
        · have c9 := c9
          refine q_aload_n C hl dX2_readThing_31 rfl 1 rfl ?_
          refine q_dup C dX2_readThing_32 rfl ?_
          refine q_getT (v := .int (jj P)) C w.1 (fun w h => List.mem_cons_of_mem _ (List.mem_append_right _ h)) 6 (by decide) (List.mem_of_getElem? (i := 1) rfl) (gt_v rfl e6) dX2_readThing_33 ?_
          refine q_iconst C dX2_readThing_36 ?_
          refine q_iadd C dX2_readThing_37 ?_
          refine q_putT C w (fun w h => List.mem_cons_of_mem _ (List.mem_append_right _ h)) 6 (by decide) (List.mem_of_getElem? (i := 1) rfl) rfl rfl dX2_readThing_38 (tP6 cI cC h ad _ _ _ _ _ _) (fun H locs w => ?_)
          refine q_iconst C dX2_readThing_41 ?_
          refine q_istore_n (lv' := [(2, .int (jj 0)), (1, .int (jj (chA τ le P))), (0, .ref h)]) C hl dX2_readThing_42 rfl (by decide) rfl (fun ls hl => ?_)
          refine q_iload_n C hl dX2_readThing_43 rfl 1 rfl ?_
          refine q_bipush C dX2_readThing_44 (by decide) ?_
          refine q_icmp_ne (tgt := 60) C dX2_readThing_46 (by decide) ⟨by omega, by omega⟩ ⟨by omega, by omega⟩ (fun _ => ?_) (fun z => absurd z (by omega))
          refine q_iload_n C hl dX2_readThing_60 rfl 1 rfl ?_
          refine q_bipush C dX2_readThing_61 (by decide) ?_
          refine q_icmp_ne (tgt := 77) C dX2_readThing_63 (by decide) ⟨by omega, by omega⟩ ⟨by omega, by omega⟩ (fun _ => ?_) (fun z => absurd z (by omega))
          refine q_iload_n C hl dX2_readThing_77 rfl 1 rfl ?_
          refine q_bipush C dX2_readThing_78 (by decide) ?_
          refine q_icmp_ne (tgt := 91) C dX2_readThing_80 (by decide) ⟨by omega, by omega⟩ ⟨by omega, by omega⟩ (fun z => absurd z (by omega)) (fun _ => ?_)
          refine q_aload_n C hl dX2_readThing_83 rfl 2 rfl ?_
          refine q_iconst C dX2_readThing_84 ?_
          refine q_bipush C dX2_readThing_85 (by decide) ?_
          refine q_runi C w fr_all (q_V (As := [.int (jj 0), .int (jj 15)]) (rest := []) C w fr_all fX2_readNumber gX2_readThing_X2_readNumber rfl ⟨Nat.le_of_ble_eq_true rfl, Nat.le_of_ble_eq_true rfl⟩ (kX2_readNumber_bad l D cI cC cS h ad τ kd am sd (up q 6 (P + 1)) (P + 1) le 0 15 rfl e1 (by omega) (by omega) bt (by omega) (by omega) _) (q0 := 0) rfl rfl rfl rfl hl (Nat.le_of_ble_eq_true rfl) dX2_readThing_87 ⟨Nat.le_refl 0, Nat.le_refl 0⟩) (fun H locs w => ?_)
          refine q_istore_n (lv' := [(2, .int (jj (-1))), (1, .int (jj (chA τ le P))), (0, .ref h)]) C hl dX2_readThing_90 rfl (by decide) rfl (fun ls hl => ?_)
          refine q_iload_n C hl dX2_readThing_91 rfl 0 rfl ?_
          refine q_iconst C dX2_readThing_92 ?_
          refine q_icmp_ne (tgt := 98) C dX2_readThing_93 (by decide) ⟨by omega, by omega⟩ ⟨by omega, by omega⟩ (fun z => absurd z (by omega)) (fun _ => ?_)
          refine q_iconst C dX2_readThing_96 ?_
          exact q_zret C w dX2_readThing_97 (bI_f id).symm (by have ef : tfl τ le P = P + 1 := if_pos (by omega); rw [ef])
        · have c9 := c9
          refine q_iconst C dX2_readThing_29 ?_
          exact q_zret C w dX2_readThing_30 (bI_f id).symm (by have ef : tfl τ le P = P := if_neg (by omega); rw [ef, up_at e6])

def rX2_read : Room := { frames := 4, cells := 0, slots := 0, locals := 89 }
theorem fX2_read : Fc yX2_read wsX2_read rX2_read cX2_read 2 (some .int) 0 := ⟨⟨_, rfl⟩, rfl, rfl, by decide +kernel, by decide +kernel, by decide +kernel⟩
set_option maxHeartbeats 4000000 in
set_option maxRecDepth 10000 in
theorem kX2_read_ok (l : Launch) (D : va_G) (cI cC cS : ClassId) (h : Nat) (ad : Nat → Nat) (τ kd am sd q : Int → Int) (le : Int)  (e1 : q 1 = le) (ble : 0 ≤ le ∧ le ≤ 60) (bt : ∀ x : Int, 0 ≤ x → x < le → 0 ≤ τ x ∧ τ x ≤ 65535) (hw : wok τ le) : Ki l yX2_read wsX2_read rX2_read D (tz cI cC cS) [.ref h] (tW cI cC h ad τ kd am sd q) (-1) (tW cI cC h ad τ (pkd τ le ltr kd ((fin τ le).2 + 1)) (pkd τ le tnu am ((fin τ le).2 + 1)) (pkd τ le tsi sd ((fin τ le).2 + 1)) (up (up q 6 (ten τ le (fin τ le).1)) 5 ((fin τ le).2 + 1))) := by
  refine q_entry (cc := cX2_read) (nL := 2) (ret := (some .int)) (by decide) ⟨_, rfl⟩ (Nat.le_of_ble_eq_true rfl) ?_
  intro A pr en s m args below meth c C hin w ls hl
  have w := w
  have hl : lv_has ls 2 [(0, .ref h)] := hl
  refine q_aload_n C hl dX2_read_0 rfl 0 rfl ?_
  refine q_iconst C dX2_read_1 ?_
  refine q_putT C w (fun w h => List.mem_cons_of_mem _ (List.mem_append_right _ h)) 5 (by decide) (List.mem_of_getElem? (i := 1) rfl) rfl rfl dX2_read_2 (tP5 cI cC h ad _ _ _ _ _ _) (fun H locs w => ?_)
  refine q_aload_n C hl dX2_read_5 rfl 0 rfl ?_
  refine q_iconst C dX2_read_6 ?_
  refine q_putT C w (fun w h => List.mem_cons_of_mem _ (List.mem_append_right _ h)) 6 (by decide) (List.mem_of_getElem? (i := 2) rfl) rfl rfl dX2_read_7 (tP6 cI cC h ad _ _ _ _ _ _) (fun H locs w => ?_)
  refine q_iconst C dX2_read_10 ?_
  refine q_istore_n (lv' := [(1, .int (jj 0)), (0, .ref h)]) C hl dX2_read_11 rfl (by decide) rfl (fun ls hl => ?_)
  have loop12 : ∀ (n12 : Nat) (n : Int) (P : Int), (0 ≤ n ∧ n ≤ 30) → ((P, n) = itp τ le n) → (2 * n ≤ P ∧ P ≤ le) → (30 - n).toNat < n12 → ∀ (H : Heap) (locs : List Loc), Wd D A s (tW cI cC h ad τ (pkd τ le ltr kd n) (pkd τ le tnu am n) (pkd τ le tsi sd n) (up (up q 6 P) 5 n)) H locs → ∀ ls : Array Slot, lv_has ls 2 [(0, .ref h), (1, .int (jj n))] → W pr l en rX2_read s m args below meth c H locs 0 0 (MQ below (Qi D (tz cI cC cS) (-1) (tW cI cC h ad τ (pkd τ le ltr kd ((fin τ le).2 + 1)) (pkd τ le tnu am ((fin τ le).2 + 1)) (pkd τ le tsi sd ((fin τ le).2 + 1)) (up (up q 6 (ten τ le (fin τ le).1)) 5 ((fin τ le).2 + 1))) A) args s 0 0 A) (F0 m 12 ls []) := by
    intro n12
    induction n12 with
    | zero => intro n P hn0 hit hP hm; exact absurd hm (Nat.not_lt_zero _)
    | succ n12 ih12 =>
      intro n P hn0 hit hP hm12 H locs w ls hl
      have hw2 := wok_at hw hn0.1 (by omega) hit
      have ht := ten_b hw2.1
      refine q_iload_n C hl dX2_read_12 rfl 1 rfl ?_
      refine q_bipush C dX2_read_13 (by decide) ?_
      refine q_icmp_ge (tgt := 73) C dX2_read_15 (by decide) ⟨by omega, by omega⟩ ⟨by omega, by omega⟩ (fun c1 => ?_) (fun c1 => ?_)
      · exact absurd c1 (by omega)
      · have c1 := c1
        refine q_aload_n C hl dX2_read_18 rfl 0 rfl ?_
        refine q_runi C w fr_all (q_V (As := []) (rest := []) C w fr_all fX2_readThing gX2_read_X2_readThing rfl ⟨Nat.le_of_ble_eq_true rfl, Nat.le_of_ble_eq_true rfl⟩ (kX2_readThing_ok l D cI cC cS h ad τ (pkd τ le ltr kd n) (pkd τ le tnu am n) (pkd τ le tsi sd n) (up (up q 6 P) 5 n) P le n rfl e1 rfl (by omega) (by omega) bt (by omega) hw2.1 _) (q0 := 0) rfl rfl rfl rfl hl (Nat.le_of_ble_eq_true rfl) dX2_read_19 ⟨Nat.le_refl 0, Nat.le_refl 0⟩) (fun H locs w => ?_)
        refine q_ifz_ne (tgt := 30) C dX2_read_22 (by decide) (fun _ => ?_) (fun z => absurd trivial z)
        refine q_aload_n C hl dX2_read_30 rfl 0 rfl ?_
        refine q_getT (v := .int (jj (ten τ le P))) C w.1 (fun w h => List.mem_cons_of_mem _ (List.mem_append_right _ h)) 6 (by decide) (List.mem_of_getElem? (i := 2) rfl) rfl dX2_read_31 ?_
        refine q_aload_n C hl dX2_read_34 rfl 0 rfl ?_
        refine q_getT (v := .int (jj le)) C w.1 (fun w h => List.mem_cons_of_mem _ (List.mem_append_right _ h)) 1 (by decide) (List.mem_of_getElem? (i := 3) rfl) (gt_v rfl e1) dX2_read_35 ?_
        refine q_icmp_lt (tgt := 43) C dX2_read_38 (by decide) ⟨by omega, by omega⟩ ⟨by omega, by omega⟩ (fun c3 => ?_) (fun c3 => ?_)
        · have c3 := c3
          have hcn := hw2.2 (by omega)
          have hch := chA_in (τ := τ) (le := le) (P := ten τ le P) (by omega)
          refine q_aload_n C hl dX2_read_43 rfl 0 rfl ?_
          refine q_runi C w fr_all (q_V (As := []) (rest := []) C w fr_all fX2_character gX2_read_X2_character rfl ⟨Nat.le_of_ble_eq_true rfl, Nat.le_of_ble_eq_true rfl⟩ (kX2_character l D cI cC cS h ad τ (up (pkd τ le ltr kd n) n (ltr τ le P)) (up (pkd τ le tnu am n) n (tnu τ le P)) (up (pkd τ le tsi sd n) n (tsi τ le P)) (up (up (up (up q 6 P) 5 n) 6 (ten τ le P)) 5 (n + 1)) (ten τ le P) le rfl e1 (by omega) (by omega) bt _) (q0 := 0) rfl rfl rfl rfl hl (Nat.le_of_ble_eq_true rfl) dX2_read_44 ⟨Nat.le_refl 0, Nat.le_refl 0⟩) (fun H locs w => ?_)
          refine q_bipush C dX2_read_47 (by decide) ?_
          refine q_icmp_eq (tgt := 57) C dX2_read_49 (by decide) ⟨by omega, by omega⟩ ⟨by omega, by omega⟩ (fun c4 => ?_) (fun c4 => ?_)
          · have c4 := c4
            refine q_aload_n C hl dX2_read_57 rfl 0 rfl ?_
            refine q_dup C dX2_read_58 rfl ?_
            refine q_getT (v := .int (jj (ten τ le P))) C w.1 (fun w h => List.mem_cons_of_mem _ (List.mem_append_right _ h)) 6 (by decide) (List.mem_of_getElem? (i := 2) rfl) rfl dX2_read_59 ?_
            refine q_iconst C dX2_read_62 ?_
            refine q_iadd C dX2_read_63 ?_
            refine q_putT C w (fun w h => List.mem_cons_of_mem _ (List.mem_append_right _ h)) 6 (by decide) (List.mem_of_getElem? (i := 2) rfl) rfl rfl dX2_read_64 (tP6 cI cC h ad _ _ _ _ _ _) (fun H locs w => ?_)
            refine q_iinc (lv' := [(1, .int (jj (n + 1))), (0, .ref h)]) C hl dX2_read_67 1 rfl (by decide) rfl (fun ls hl => ?_)
            refine q_goto (tgt := 12) C dX2_read_70 (by decide) ?_
            exact ih12 (n + 1) (ten τ le P + 1) (by omega) (itp_go hn0.1 hit hcn) (by omega) (by omega) _ _ (by rw [pkd_s ltr kd hn0.1 hit, pkd_s tnu am hn0.1 hit, pkd_s tsi sd hn0.1 hit, up6565, up656] at w; exact w) ls (lv_sub hl [1, 0] rfl)
          · exact absurd c4 (by omega)
        · have c3 := c3
          refine q_iconst C dX2_read_41 ?_
          exact q_iret C w dX2_read_42 rfl (by rw [fin_at hn0.1 (by omega) hit (by omega), ← pkd_s ltr kd hn0.1 hit, ← pkd_s tnu am hn0.1 hit, ← pkd_s tsi sd hn0.1 hit, up6565])
  exact loop12 _ 0 0 (by omega) rfl (by omega) (Nat.lt_succ_self _) _ _ (by rw [pkd_0, pkd_0, pkd_0, ← up65]; exact w) ls (lv_sub hl [1, 0] rfl)

set_option maxHeartbeats 4000000 in
set_option maxRecDepth 10000 in
theorem kX2_read_bad (l : Launch) (D : va_G) (cI cC cS : ClassId) (h : Nat) (ad : Nat → Nat) (τ kd am sd q : Int → Int) (le : Int)  (e1 : q 1 = le) (ble : 0 ≤ le ∧ le ≤ 60) (bt : ∀ x : Int, 0 ≤ x → x < le → 0 ≤ τ x ∧ τ x ≤ 65535) (hw : ¬ wok τ le) : Ki l yX2_read wsX2_read rX2_read D (tz cI cC cS) [.ref h] (tW cI cC h ad τ kd am sd q) (flt τ le) (tW cI cC h ad τ (pkd τ le ltr kd (if tok τ le (fin τ le).1 then (fin τ le).2 + 1 else (fin τ le).2)) (pkd τ le tnu am (if tok τ le (fin τ le).1 then (fin τ le).2 + 1 else (fin τ le).2)) (pkd τ le tsi sd (if tok τ le (fin τ le).1 then (fin τ le).2 + 1 else (fin τ le).2)) (up (up q 6 (flt τ le)) 5 (if tok τ le (fin τ le).1 then (fin τ le).2 + 1 else (fin τ le).2))) := by
  refine q_entry (cc := cX2_read) (nL := 2) (ret := (some .int)) (by decide) ⟨_, rfl⟩ (Nat.le_of_ble_eq_true rfl) ?_
  intro A pr en s m args below meth c C hin w ls hl
  have w := w
  have hl : lv_has ls 2 [(0, .ref h)] := hl
  refine q_aload_n C hl dX2_read_0 rfl 0 rfl ?_
  refine q_iconst C dX2_read_1 ?_
  refine q_putT C w (fun w h => List.mem_cons_of_mem _ (List.mem_append_right _ h)) 5 (by decide) (List.mem_of_getElem? (i := 1) rfl) rfl rfl dX2_read_2 (tP5 cI cC h ad _ _ _ _ _ _) (fun H locs w => ?_)
  refine q_aload_n C hl dX2_read_5 rfl 0 rfl ?_
  refine q_iconst C dX2_read_6 ?_
  refine q_putT C w (fun w h => List.mem_cons_of_mem _ (List.mem_append_right _ h)) 6 (by decide) (List.mem_of_getElem? (i := 2) rfl) rfl rfl dX2_read_7 (tP6 cI cC h ad _ _ _ _ _ _) (fun H locs w => ?_)
  refine q_iconst C dX2_read_10 ?_
  refine q_istore_n (lv' := [(1, .int (jj 0)), (0, .ref h)]) C hl dX2_read_11 rfl (by decide) rfl (fun ls hl => ?_)
  have loop12 : ∀ (n12 : Nat) (n : Int) (P : Int), (0 ≤ n ∧ n ≤ 30) → ((P, n) = itp τ le n) → (2 * n ≤ P ∧ P ≤ le) → (30 - n).toNat < n12 → ∀ (H : Heap) (locs : List Loc), Wd D A s (tW cI cC h ad τ (pkd τ le ltr kd n) (pkd τ le tnu am n) (pkd τ le tsi sd n) (up (up q 6 P) 5 n)) H locs → ∀ ls : Array Slot, lv_has ls 2 [(0, .ref h), (1, .int (jj n))] → W pr l en rX2_read s m args below meth c H locs 0 0 (MQ below (Qi D (tz cI cC cS) (flt τ le) (tW cI cC h ad τ (pkd τ le ltr kd (if tok τ le (fin τ le).1 then (fin τ le).2 + 1 else (fin τ le).2)) (pkd τ le tnu am (if tok τ le (fin τ le).1 then (fin τ le).2 + 1 else (fin τ le).2)) (pkd τ le tsi sd (if tok τ le (fin τ le).1 then (fin τ le).2 + 1 else (fin τ le).2)) (up (up q 6 (flt τ le)) 5 (if tok τ le (fin τ le).1 then (fin τ le).2 + 1 else (fin τ le).2))) A) args s 0 0 A) (F0 m 12 ls []) := by
    intro n12
    induction n12 with
    | zero => intro n P hn0 hit hP hm; exact absurd hm (Nat.not_lt_zero _)
    | succ n12 ih12 =>
      intro n P hn0 hit hP hm12 H locs w ls hl
      refine q_iload_n C hl dX2_read_12 rfl 1 rfl ?_
      refine q_bipush C dX2_read_13 (by decide) ?_
      refine q_icmp_ge (tgt := 73) C dX2_read_15 (by decide) ⟨by omega, by omega⟩ ⟨by omega, by omega⟩ (fun c1 => ?_) (fun c1 => ?_)
      · have c1 := c1
        refine q_aload_n C hl dX2_read_73 rfl 0 rfl ?_
        refine q_getT (v := .int (jj P)) C w.1 (fun w h => List.mem_cons_of_mem _ (List.mem_append_right _ h)) 6 (by decide) (List.mem_of_getElem? (i := 2) rfl) rfl dX2_read_74 ?_
        exact q_iret C w dX2_read_77 (by have hnt : ¬ tok τ le P := (by have hx := ltr_out (τ := τ) (le := le) (P := P) (by omega); omega); have hf := fin_at hn0.1 (by omega) hit (fun z => hnt z.1); have ef : flt τ le = tfl τ le P := (by unfold flt; rw [hf]; exact if_neg hnt); have em : (if tok τ le (fin τ le).1 then (fin τ le).2 + 1 else (fin τ le).2) = n := (by rw [hf]; exact if_neg hnt); have e2 : tfl τ le P = P := (by have hx := ltr_out (τ := τ) (le := le) (P := P) (by omega); exact if_neg (by omega)); rw [ef, e2]) (by have hnt : ¬ tok τ le P := (by have hx := ltr_out (τ := τ) (le := le) (P := P) (by omega); omega); have hf := fin_at hn0.1 (by omega) hit (fun z => hnt z.1); have ef : flt τ le = tfl τ le P := (by unfold flt; rw [hf]; exact if_neg hnt); have em : (if tok τ le (fin τ le).1 then (fin τ le).2 + 1 else (fin τ le).2) = n := (by rw [hf]; exact if_neg hnt); have e2 : tfl τ le P = P := (by have hx := ltr_out (τ := τ) (le := le) (P := P) (by omega); exact if_neg (by omega)); rw [ef, em, e2])
      · have c1 := c1
        refine q_aload_n C hl dX2_read_18 rfl 0 rfl ?_
        by_cases c2 : tok τ le P
        · have c2 := c2
          refine q_runi C w fr_all (q_V (As := []) (rest := []) C w fr_all fX2_readThing gX2_read_X2_readThing rfl ⟨Nat.le_of_ble_eq_true rfl, Nat.le_of_ble_eq_true rfl⟩ (kX2_readThing_ok l D cI cC cS h ad τ (pkd τ le ltr kd n) (pkd τ le tnu am n) (pkd τ le tsi sd n) (up (up q 6 P) 5 n) P le n rfl e1 rfl (by omega) (by omega) bt (by omega) (by omega) _) (q0 := 0) rfl rfl rfl rfl hl (Nat.le_of_ble_eq_true rfl) dX2_read_19 ⟨Nat.le_refl 0, Nat.le_refl 0⟩) (fun H locs w => ?_)
          have ht := ten_b (τ := τ) (le := le) (P := P) (by assumption)
          refine q_ifz_ne (tgt := 30) C dX2_read_22 (by decide) (fun _ => ?_) (fun z => absurd trivial z)
          refine q_aload_n C hl dX2_read_30 rfl 0 rfl ?_
          refine q_getT (v := .int (jj (ten τ le P))) C w.1 (fun w h => List.mem_cons_of_mem _ (List.mem_append_right _ h)) 6 (by decide) (List.mem_of_getElem? (i := 2) rfl) rfl dX2_read_31 ?_
          refine q_aload_n C hl dX2_read_34 rfl 0 rfl ?_
          refine q_getT (v := .int (jj le)) C w.1 (fun w h => List.mem_cons_of_mem _ (List.mem_append_right _ h)) 1 (by decide) (List.mem_of_getElem? (i := 3) rfl) (gt_v rfl e1) dX2_read_35 ?_
          refine q_icmp_lt (tgt := 43) C dX2_read_38 (by decide) ⟨by omega, by omega⟩ ⟨by omega, by omega⟩ (fun c4 => ?_) (fun c4 => ?_)
          · have c4 := c4
            have hch := chA_in (τ := τ) (le := le) (P := ten τ le P) (by omega)
            have hcb := chA_b (le := le) (P := ten τ le P) (by omega) bt
            refine q_aload_n C hl dX2_read_43 rfl 0 rfl ?_
            refine q_runi C w fr_all (q_V (As := []) (rest := []) C w fr_all fX2_character gX2_read_X2_character rfl ⟨Nat.le_of_ble_eq_true rfl, Nat.le_of_ble_eq_true rfl⟩ (kX2_character l D cI cC cS h ad τ (up (pkd τ le ltr kd n) n (ltr τ le P)) (up (pkd τ le tnu am n) n (tnu τ le P)) (up (pkd τ le tsi sd n) n (tsi τ le P)) (up (up (up (up q 6 P) 5 n) 6 (ten τ le P)) 5 (n + 1)) (ten τ le P) le rfl e1 (by omega) (by omega) bt _) (q0 := 0) rfl rfl rfl rfl hl (Nat.le_of_ble_eq_true rfl) dX2_read_44 ⟨Nat.le_refl 0, Nat.le_refl 0⟩) (fun H locs w => ?_)
            refine q_bipush C dX2_read_47 (by decide) ?_
            refine q_icmp_eq (tgt := 57) C dX2_read_49 (by decide) ⟨by omega, by omega⟩ ⟨by omega, by omega⟩ (fun c5 => ?_) (fun c5 => ?_)
            · have c5 := c5
              refine q_aload_n C hl dX2_read_57 rfl 0 rfl ?_
              refine q_dup C dX2_read_58 rfl ?_
              refine q_getT (v := .int (jj (ten τ le P))) C w.1 (fun w h => List.mem_cons_of_mem _ (List.mem_append_right _ h)) 6 (by decide) (List.mem_of_getElem? (i := 2) rfl) rfl dX2_read_59 ?_
              refine q_iconst C dX2_read_62 ?_
              refine q_iadd C dX2_read_63 ?_
              refine q_putT C w (fun w h => List.mem_cons_of_mem _ (List.mem_append_right _ h)) 6 (by decide) (List.mem_of_getElem? (i := 2) rfl) rfl rfl dX2_read_64 (tP6 cI cC h ad _ _ _ _ _ _) (fun H locs w => ?_)
              refine q_iinc (lv' := [(1, .int (jj (n + 1))), (0, .ref h)]) C hl dX2_read_67 1 rfl (by decide) rfl (fun ls hl => ?_)
              refine q_goto (tgt := 12) C dX2_read_70 (by decide) ?_
              exact ih12 (n + 1) (ten τ le P + 1) (by omega) (itp_go hn0.1 hit (by omega)) (by omega) (by omega) _ _ (by rw [pkd_s ltr kd hn0.1 hit, pkd_s tnu am hn0.1 hit, pkd_s tsi sd hn0.1 hit, up6565, up656] at w; exact w) ls (lv_sub hl [1, 0] rfl)
            · have c5 := c5
              refine q_aload_n C hl dX2_read_52 rfl 0 rfl ?_
              refine q_getT (v := .int (jj (ten τ le P))) C w.1 (fun w h => List.mem_cons_of_mem _ (List.mem_append_right _ h)) 6 (by decide) (List.mem_of_getElem? (i := 2) rfl) rfl dX2_read_53 ?_
              exact q_iret C w dX2_read_56 (by have hf := fin_at hn0.1 (by omega) hit (by omega); have ef : flt τ le = ten τ le P := (by unfold flt; rw [hf]; exact if_pos (by assumption)); have em : (if tok τ le (fin τ le).1 then (fin τ le).2 + 1 else (fin τ le).2) = n + 1 := (by rw [hf]; exact if_pos (by assumption)); rw [ef]) (by have hf := fin_at hn0.1 (by omega) hit (by omega); have ef : flt τ le = ten τ le P := (by unfold flt; rw [hf]; exact if_pos (by assumption)); have em : (if tok τ le (fin τ le).1 then (fin τ le).2 + 1 else (fin τ le).2) = n + 1 := (by rw [hf]; exact if_pos (by assumption)); rw [ef, em, ← pkd_s ltr kd hn0.1 hit, ← pkd_s tnu am hn0.1 hit, ← pkd_s tsi sd hn0.1 hit, up6565])
          · exact absurd (show tok τ le (fin τ le).1 ∧ le ≤ ten τ le (fin τ le).1 by rw [fin_at hn0.1 (by omega) hit (by omega)]; exact ⟨(show tok τ le P by assumption), c4⟩) hw
        · have c2 := c2
          refine q_runi C w fr_all (q_V (As := []) (rest := []) C w fr_all fX2_readThing gX2_read_X2_readThing rfl ⟨Nat.le_of_ble_eq_true rfl, Nat.le_of_ble_eq_true rfl⟩ (kX2_readThing_bad l D cI cC cS h ad τ (pkd τ le ltr kd n) (pkd τ le tnu am n) (pkd τ le tsi sd n) (up (up q 6 P) 5 n) P le n rfl e1 rfl (by omega) (by omega) bt (by omega) _) (q0 := 0) rfl rfl rfl rfl hl (Nat.le_of_ble_eq_true rfl) dX2_read_19 ⟨Nat.le_refl 0, Nat.le_refl 0⟩) (fun H locs w => ?_)
          refine q_ifz_ne (tgt := 30) C dX2_read_22 (by decide) (fun z => absurd z id) (fun _ => ?_)
          refine q_aload_n C hl dX2_read_25 rfl 0 rfl ?_
          refine q_getT (v := .int (jj (tfl τ le P))) C w.1 (fun w h => List.mem_cons_of_mem _ (List.mem_append_right _ h)) 6 (by decide) (List.mem_of_getElem? (i := 2) rfl) rfl dX2_read_26 ?_
          exact q_iret C w dX2_read_29 (by have hnt : ¬ tok τ le P := (by assumption); have hf := fin_at hn0.1 (by omega) hit (fun z => hnt z.1); have ef : flt τ le = tfl τ le P := (by unfold flt; rw [hf]; exact if_neg hnt); have em : (if tok τ le (fin τ le).1 then (fin τ le).2 + 1 else (fin τ le).2) = n := (by rw [hf]; exact if_neg hnt); rw [ef]) (by have hnt : ¬ tok τ le P := (by assumption); have hf := fin_at hn0.1 (by omega) hit (fun z => hnt z.1); have ef : flt τ le = tfl τ le P := (by unfold flt; rw [hf]; exact if_neg hnt); have em : (if tok τ le (fin τ le).1 then (fin τ le).2 + 1 else (fin τ le).2) = n := (by rw [hf]; exact if_neg hnt); rw [ef, em, up656])
  exact loop12 _ 0 0 (by omega) rfl (by omega) (Nat.lt_succ_self _) _ _ (by rw [pkd_0, pkd_0, pkd_0, ← up65]; exact w) ls (lv_sub hl [1, 0] rfl)
