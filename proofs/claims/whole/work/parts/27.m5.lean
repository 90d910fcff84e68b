def rX4_person : Room := { frames := 4, cells := 0, slots := 0, locals := 88 }
theorem fX4_person : Fc yX4_person wsX4_person rX4_person cX4_person 3 (some .int) 2 := ⟨⟨_, rfl⟩, rfl, rfl, by decide +kernel, by decide +kernel, by decide +kernel⟩
set_option maxHeartbeats 4000000 in
set_option maxRecDepth 10000 in
theorem kX4_person (l : Launch) (D : va_G) (cI cC cS : ClassId) (h : Nat) (ad : Nat → Nat) (σ α ς β τ q : Int → Int) (p wh : Int) (bY : Iv σ) (z_p : -2147483648 ≤ p ∧ p ≤ 2147483647) (z_wh : -2147483648 ≤ wh ∧ wh ≤ 2147483647) : Ki l yX4_person wsX4_person rX4_person D (tz cI cC cS) [.ref h, .int (jj p), .int (jj wh)] (mW cI h ad σ α ς β τ q) (psu σ p wh) (mW cI h ad σ α ς β τ q) := by
  obtain ⟨bW, bE, bP, bc, bN, bU, b1, b9, b10, bv, bf⟩ := bY
  have hn := bW.1
  have hn2 := bW.2.1
  refine q_entry (cc := cX4_person) (nL := 3) (ret := (some .int)) (by decide) ⟨_, rfl⟩ (Nat.le_of_ble_eq_true rfl) ?_
  intro A pr en s m args below meth c C hin w ls hl
  have w := w
  have hl : lv_has ls 3 [(0, .ref h), (1, .int (jj p)), (2, .int (jj wh))] := hl
  refine q_aload_n C hl dX4_person_0 rfl 0 rfl ?_
  refine q_iload_n C hl dX4_person_1 rfl 1 rfl ?_
  refine q_runi C w fr_all (q_V (As := [.int (jj p)]) (rest := []) C w fr_all fX4_isPlace gX4_person_X4_isPlace rfl ⟨Nat.le_of_ble_eq_true rfl, Nat.le_of_ble_eq_true rfl⟩ (kX4_isPlace l D cI cC cS h ad σ α ς β τ q p ⟨by omega, by omega⟩ (by omega) _) (q0 := 0) rfl rfl rfl rfl hl (Nat.le_of_ble_eq_true rfl) dX4_person_2 ⟨Nat.le_refl 0, Nat.le_refl 0⟩) (fun H locs w => ?_)
  refine q_ifz_ne (tgt := 10) C dX4_person_5 (by decide) (fun c1 => ?_) (fun c1 => ?_)
  · have c1 := c1
    have hq := bW.2.2 p (by omega) (by omega)
    refine q_iload_n C hl dX4_person_10 rfl 2 rfl ?_
    by_cases c2 : wh = 5
    · refine q_tabIn (v := 5) (tgt := 40) C dX4_person_11 c2 ⟨by omega, by omega⟩ (by decide) (by decide) rfl (by decide) ?_
      refine q_aload_n C hl dX4_person_40 rfl 0 rfl ?_
      refine q_iload_n C hl dX4_person_41 rfl 1 rfl ?_
      refine q_iconst C dX4_person_42 ?_
      refine q_runi C w fr_all (q_V (As := [.int (jj p), .int (jj 4)]) (rest := []) C w fr_all fX4_of gX4_person_X4_of rfl ⟨Nat.le_of_ble_eq_true rfl, Nat.le_of_ble_eq_true rfl⟩ (kX4_of l D cI cC cS h ad σ α ς β τ q p 4 (by omega) (by omega) _) (q0 := 0) rfl rfl rfl rfl hl (Nat.le_of_ble_eq_true rfl) dX4_person_43 ⟨Nat.le_refl 0, Nat.le_refl 0⟩) (fun H locs w => ?_)
      refine q_if_ne (tgt := 54) C dX4_person_46 (by decide) ⟨by omega, by omega⟩ (fun c3 => ?_) (fun c3 => ?_)
      · have c3 := c3
        refine q_aload_n C hl dX4_person_54 rfl 0 rfl ?_
        refine q_iload_n C hl dX4_person_55 rfl 1 rfl ?_
        refine q_runi C w fr_all (q_V (As := [.int (jj p)]) (rest := []) C w fr_all fX4_leastOf gX4_person_X4_leastOf rfl ⟨Nat.le_of_ble_eq_true rfl, Nat.le_of_ble_eq_true rfl⟩ (kX4_leastOf l D cI cC cS h ad σ α ς β τ q p (by omega) (by omega) _) (q0 := 0) rfl rfl rfl rfl hl (Nat.le_of_ble_eq_true rfl) dX4_person_56 ⟨Nat.le_refl 0, Nat.le_refl 0⟩) (fun H locs w => ?_)
        exact q_iret C w dX4_person_59 (by unfold psu; (repeat' split) <;> omega) rfl
      · have c3 := c3
        refine q_bipush C dX4_person_49 (by decide) ?_
        refine q_goto (tgt := 59) C dX4_person_51 (by decide) ?_
        exact q_iret C w dX4_person_59 (by unfold psu; (repeat' split) <;> omega) rfl
    by_cases c4 : wh = 6
    · refine q_tabIn (v := 6) (tgt := 60) C dX4_person_11 c4 ⟨by omega, by omega⟩ (by decide) (by decide) rfl (by decide) ?_
      refine q_aload_n C hl dX4_person_60 rfl 0 rfl ?_
      refine q_iload_n C hl dX4_person_61 rfl 1 rfl ?_
      refine q_iconst C dX4_person_62 ?_
      refine q_runi C w fr_all (q_V (As := [.int (jj p), .int (jj 4)]) (rest := []) C w fr_all fX4_of gX4_person_X4_of rfl ⟨Nat.le_of_ble_eq_true rfl, Nat.le_of_ble_eq_true rfl⟩ (kX4_of l D cI cC cS h ad σ α ς β τ q p 4 (by omega) (by omega) _) (q0 := 0) rfl rfl rfl rfl hl (Nat.le_of_ble_eq_true rfl) dX4_person_63 ⟨Nat.le_refl 0, Nat.le_refl 0⟩) (fun H locs w => ?_)
      refine q_if_ne (tgt := 74) C dX4_person_66 (by decide) ⟨by omega, by omega⟩ (fun c5 => ?_) (fun c5 => ?_)
      · have c5 := c5
        refine q_aload_n C hl dX4_person_74 rfl 0 rfl ?_
        refine q_iload_n C hl dX4_person_75 rfl 1 rfl ?_
        refine q_runi C w fr_all (q_V (As := [.int (jj p)]) (rest := []) C w fr_all fX4_greatestOf gX4_person_X4_greatestOf rfl ⟨Nat.le_of_ble_eq_true rfl, Nat.le_of_ble_eq_true rfl⟩ (kX4_greatestOf l D cI cC cS h ad σ α ς β τ q p (by omega) (by omega) (by omega) _) (q0 := 0) rfl rfl rfl rfl hl (Nat.le_of_ble_eq_true rfl) dX4_person_76 ⟨Nat.le_refl 0, Nat.le_refl 0⟩) (fun H locs w => ?_)
        exact q_iret C w dX4_person_79 (by unfold psu; (repeat' split) <;> omega) rfl
      · have c5 := c5
        refine q_bipush C dX4_person_69 (by decide) ?_
        refine q_goto (tgt := 79) C dX4_person_71 (by decide) ?_
        exact q_iret C w dX4_person_79 (by unfold psu; (repeat' split) <;> omega) rfl
    by_cases c6 : wh = 7
    · refine q_tabIn (v := 7) (tgt := 80) C dX4_person_11 c6 ⟨by omega, by omega⟩ (by decide) (by decide) rfl (by decide) ?_
      refine q_aload_n C hl dX4_person_80 rfl 0 rfl ?_
      refine q_iload_n C hl dX4_person_81 rfl 1 rfl ?_
      refine q_runi C w fr_all (q_V (As := [.int (jj p)]) (rest := []) C w fr_all fX4_reaching gX4_person_X4_reaching rfl ⟨Nat.le_of_ble_eq_true rfl, Nat.le_of_ble_eq_true rfl⟩ (kX4_reaching l D cI cC cS h ad σ α ς β τ q p bW (by omega) _) (q0 := 0) rfl rfl rfl rfl hl (Nat.le_of_ble_eq_true rfl) dX4_person_82 ⟨Nat.le_refl 0, Nat.le_refl 0⟩) (fun H locs w => ?_)
      exact q_iret C w dX4_person_85 (by unfold psu; (repeat' split) <;> omega) rfl
    by_cases c7 : wh = 8
    · refine q_tabIn (v := 8) (tgt := 86) C dX4_person_11 c7 ⟨by omega, by omega⟩ (by decide) (by decide) rfl (by decide) ?_
      refine q_aload_n C hl dX4_person_86 rfl 0 rfl ?_
      refine q_iload_n C hl dX4_person_87 rfl 1 rfl ?_
      refine q_iconst C dX4_person_88 ?_
      refine q_runi C w fr_all (q_V (As := [.int (jj p), .int (jj 5)]) (rest := []) C w fr_all fX4_of gX4_person_X4_of rfl ⟨Nat.le_of_ble_eq_true rfl, Nat.le_of_ble_eq_true rfl⟩ (kX4_of l D cI cC cS h ad σ α ς β τ q p 5 (by omega) (by omega) _) (q0 := 0) rfl rfl rfl rfl hl (Nat.le_of_ble_eq_true rfl) dX4_person_89 ⟨Nat.le_refl 0, Nat.le_refl 0⟩) (fun H locs w => ?_)
      exact q_iret C w dX4_person_92 (by unfold psu; (repeat' split) <;> omega) rfl
    refine q_tabOut (tgt := 93) C dX4_person_11 ⟨by omega, by omega⟩ (by omega) (by decide) ?_
    refine q_iload_n C hl dX4_person_93 rfl 2 rfl ?_
    refine q_iconst C dX4_person_94 ?_
    refine q_iconst C dX4_person_95 ?_
    refine q_runi C w fr_nil (q_S (As := [.int (jj wh), .int (jj 0), .int (jj 4)]) (rest := []) C w fr_nil fX4_in gX4_person_X4_in ⟨Nat.le_of_ble_eq_true rfl, Nat.le_of_ble_eq_true rfl⟩ (kX4_in l D cI cC cS wh 0 4 ⟨by omega, by omega⟩ ⟨by omega, by omega⟩ ⟨by omega, by omega⟩ _) rfl rfl hl (Nat.le_of_ble_eq_true rfl) dX4_person_96 ⟨Nat.le_refl 0, Nat.le_refl 0⟩) (fun H locs w => ?_)
    refine q_ifz_eq (tgt := 111) C dX4_person_99 (by decide) (fun c8 => ?_) (fun c8 => ?_)
    · have c8 := c8
      refine q_bipush C dX4_person_111 (by decide) ?_
      exact q_iret C w dX4_person_113 (by unfold psu; (repeat' split) <;> omega) rfl
    · have c8 := c8
      refine q_aload_n C hl dX4_person_102 rfl 0 rfl ?_
      refine q_iload_n C hl dX4_person_103 rfl 1 rfl ?_
      refine q_iload_n C hl dX4_person_104 rfl 2 rfl ?_
      refine q_runi C w fr_all (q_V (As := [.int (jj p), .int (jj wh)]) (rest := []) C w fr_all fX4_of gX4_person_X4_of rfl ⟨Nat.le_of_ble_eq_true rfl, Nat.le_of_ble_eq_true rfl⟩ (kX4_of l D cI cC cS h ad σ α ς β τ q p wh (by omega) (by omega) _) (q0 := 0) rfl rfl rfl rfl hl (Nat.le_of_ble_eq_true rfl) dX4_person_105 ⟨Nat.le_refl 0, Nat.le_refl 0⟩) (fun H locs w => ?_)
      refine q_goto (tgt := 113) C dX4_person_108 (by decide) ?_
      exact q_iret C w dX4_person_113 (by unfold psu; (repeat' split) <;> omega) rfl
  · have c1 := c1
    refine q_iconst C dX4_person_8 ?_
    exact q_iret C w dX4_person_9 (by unfold psu; (repeat' split) <;> omega) rfl

def rX4_placeOf : Room := { frames := 2, cells := 0, slots := 0, locals := 43 }
theorem fX4_placeOf : Fc yX4_placeOf wsX4_placeOf rX4_placeOf cX4_placeOf 3 (some .int) 1 := ⟨⟨_, rfl⟩, rfl, rfl, by decide +kernel, by decide +kernel, by decide +kernel⟩
set_option maxHeartbeats 4000000 in
set_option maxRecDepth 10000 in
theorem kX4_placeOf (l : Launch) (D : va_G) (cI cC cS : ClassId) (h : Nat) (ad : Nat → Nat) (σ α ς β τ q : Int → Int) (nu : Int) (bY : Iv σ) (z_nu : -2147483648 ≤ nu ∧ nu ≤ 2147483647) : Ki l yX4_placeOf wsX4_placeOf rX4_placeOf D (tz cI cC cS) [.ref h, .int (jj nu)] (mW cI h ad σ α ς β τ q) (plu σ nu) (mW cI h ad σ α ς β τ q) := by
  obtain ⟨bW, bE, bP, bc, bN, bU, b1, b9, b10, bv, bf⟩ := bY
  have hn := bW.1
  have hn2 := bW.2.1
  refine q_entry (cc := cX4_placeOf) (nL := 3) (ret := (some .int)) (by decide) ⟨_, rfl⟩ (Nat.le_of_ble_eq_true rfl) ?_
  intro A pr en s m args below meth c C hin w ls hl
  have w := w
  have hl : lv_has ls 3 [(0, .ref h), (1, .int (jj nu))] := hl
  refine q_iload_n C hl dX4_placeOf_0 rfl 1 rfl ?_
  refine q_iconst C dX4_placeOf_1 ?_
  refine q_sipush C dX4_placeOf_2 (by decide) ?_
  refine q_runi C w fr_nil (q_S (As := [.int (jj nu), .int (jj 0), .int (jj 199)]) (rest := []) C w fr_nil fX4_in gX4_placeOf_X4_in ⟨Nat.le_of_ble_eq_true rfl, Nat.le_of_ble_eq_true rfl⟩ (kX4_in l D cI cC cS nu 0 199 ⟨by omega, by omega⟩ ⟨by omega, by omega⟩ ⟨by omega, by omega⟩ _) rfl rfl hl (Nat.le_of_ble_eq_true rfl) dX4_placeOf_5 ⟨Nat.le_refl 0, Nat.le_refl 0⟩) (fun H locs w => ?_)
  refine q_ifz_ne (tgt := 14) C dX4_placeOf_8 (by decide) (fun c1 => ?_) (fun c1 => ?_)
  · have c1 := c1
    refine q_iconst C dX4_placeOf_14 ?_
    refine q_istore_n (lv' := [(2, .int (jj 0)), (0, .ref h), (1, .int (jj nu))]) C hl dX4_placeOf_15 rfl (by decide) rfl (fun ls hl => ?_)
    have loop16 : ∀ (n16 : Nat) (i : Int), (0 ≤ i) → (i ≤ σ 0) → (∀ k : Int, 0 ≤ k → k < i → σ (13 + 6 * k + 0) ≠ nu) → (σ 0 - i).toNat < n16 → ∀ (H : Heap) (locs : List Loc), Wd D A s (mW cI h ad σ α ς β τ q) H locs → ∀ ls : Array Slot, lv_has ls 3 [(0, .ref h), (1, .int (jj nu)), (2, .int (jj i))] → W pr l en rX4_placeOf s m args below meth c H locs 0 0 (MQ below (Qi D (tz cI cC cS) (plu σ nu) (mW cI h ad σ α ς β τ q) A) args s 0 0 A) (F0 m 16 ls []) := by
      intro n16
      induction n16 with
      | zero => intro i hi0 hi1 hne hm; exact absurd hm (Nat.not_lt_zero _)
      | succ n16 ih16 =>
        intro i hi0 hi1 hne hm16 H locs w ls hl
        refine q_iload_n C hl dX4_placeOf_16 rfl 2 rfl ?_
        refine q_aload_n C hl dX4_placeOf_17 rfl 0 rfl ?_
        refine q_getM C w.1 (fun w h => List.mem_cons_of_mem _ (List.mem_append_right _ h)) 0 (by decide) (List.mem_of_getElem? (i := 1) rfl) rfl dX4_placeOf_18 ?_
        refine q_iconst C dX4_placeOf_21 ?_
        refine q_Mld C w.1 ⟨by omega, by omega⟩ dX4_placeOf_22 ?_
        refine q_icmp_ge (tgt := 44) C dX4_placeOf_23 (by decide) ⟨by omega, by omega⟩ ⟨by omega, by omega⟩ (fun c2 => ?_) (fun c2 => ?_)
        · have c2 := c2
          refine q_bipush C dX4_placeOf_44 (by decide) ?_
          exact q_iret C w dX4_placeOf_46 (by unfold plu; rw [if_pos (by omega), plc_no hn (fun k k0 k1 => hne k k0 (by omega))]) rfl
        · have c2 := c2
          have hq := bN i hi0 (by omega)
          refine q_aload_n C hl dX4_placeOf_26 rfl 0 rfl ?_
          refine q_iload_n C hl dX4_placeOf_27 rfl 2 rfl ?_
          refine q_iconst C dX4_placeOf_28 ?_
          refine q_runi C w fr_all (q_V (As := [.int (jj i), .int (jj 0)]) (rest := []) C w fr_all fX4_of gX4_placeOf_X4_of rfl ⟨Nat.le_of_ble_eq_true rfl, Nat.le_of_ble_eq_true rfl⟩ (kX4_of l D cI cC cS h ad σ α ς β τ q i 0 (by omega) (by omega) _) (q0 := 0) rfl rfl rfl rfl hl (Nat.le_of_ble_eq_true rfl) dX4_placeOf_29 ⟨Nat.le_refl 0, Nat.le_refl 0⟩) (fun H locs w => ?_)
          refine q_iload_n C hl dX4_placeOf_32 rfl 1 rfl ?_
          refine q_icmp_ne (tgt := 38) C dX4_placeOf_33 (by decide) ⟨by omega, by omega⟩ ⟨by omega, by omega⟩ (fun c3 => ?_) (fun c3 => ?_)
          · have c3 := c3
            refine q_iinc (lv' := [(2, .int (jj (i + 1))), (0, .ref h), (1, .int (jj nu))]) C hl dX4_placeOf_38 2 rfl (by decide) rfl (fun ls hl => ?_)
            refine q_goto (tgt := 16) C dX4_placeOf_41 (by decide) ?_
            exact ih16 (i + 1) (by omega) (by omega) (fun k k0 k1 => if ee : k = i then (by rw [ee]; omega) else hne k k0 (by omega)) (by omega) _ _ w ls (lv_sub hl [1, 2, 0] rfl)
          · have c3 := c3
            refine q_iload_n C hl dX4_placeOf_36 rfl 2 rfl ?_
            exact q_iret C w dX4_placeOf_37 (by unfold plu; rw [if_pos (by omega), plc_at hi0 (by omega) (by omega) hne]) rfl
    exact loop16 _ 0 (by omega) (by omega) (fun k k0 k1 => absurd k1 (by omega)) (Nat.lt_succ_self _) _ _ w ls (lv_sub hl [1, 2, 0] rfl)
  · have c1 := c1
    refine q_bipush C dX4_placeOf_11 (by decide) ?_
    exact q_iret C w dX4_placeOf_13 (by unfold plu; (repeat' split) <;> omega) rfl

def rX4_told : Room := { frames := 7, cells := 0, slots := 0, locals := 157 }
theorem fX4_told : Fc yX4_told wsX4_told rX4_told cX4_told 5 (some .int) 4 := ⟨⟨_, rfl⟩, rfl, rfl, by decide +kernel, by decide +kernel, by decide +kernel⟩
set_option maxHeartbeats 4000000 in
set_option maxRecDepth 10000 in
theorem kX4_told (l : Launch) (D : va_G) (cI cC cS : ClassId) (h : Nat) (ad : Nat → Nat) (σ α ς β τ q : Int → Int) (p d side wh : Int) (bW : Wi σ) (bE : We σ) (bP : ∀ x : Int, 0 ≤ x → x < σ 0 → 10 ≤ σ (13 + 6 * x + 2) ∧ σ (13 + 6 * x + 2) ≤ 999) (bp : 0 ≤ p ∧ p ≤ 15 ∧ p < σ 0) (bd : 1 ≤ d ∧ d ≤ 99) (bs : 0 ≤ side ∧ side ≤ 2) (z_wh : -2147483648 ≤ wh ∧ wh ≤ 2147483647) : Ki l yX4_told wsX4_told rX4_told D (tz cI cC cS) [.ref h, .int (jj p), .int (jj d), .int (jj side), .int (jj wh)] (mW cI h ad σ α ς β τ q) (tol σ p d side wh) (mW cI h ad σ α ς β τ q) := by
  have hn2 := bW.2.1
  have hq := bE p (by omega) (by omega)
  have hq2 := bP p (by omega) (by omega)
  have hb := wby_b bW (p := p) (side := side) bd.1 bd.2 hq.1
  refine q_entry (cc := cX4_told) (nL := 5) (ret := (some .int)) (by decide) ⟨_, rfl⟩ (Nat.le_of_ble_eq_true rfl) ?_
  intro A pr en s m args below meth c C hin w ls hl
  have w := w
  have hl : lv_has ls 5 [(0, .ref h), (1, .int (jj p)), (2, .int (jj d)), (3, .int (jj side)), (4, .int (jj wh))] := hl
  refine q_iload C hl dX4_told_0 4 rfl ?_
  by_cases c1 : wh = 0
  · refine q_tabIn (v := 0) (tgt := 28) C dX4_told_2 c1 ⟨by omega, by omega⟩ (by decide) (by decide) rfl (by decide) ?_
    refine q_aload_n C hl dX4_told_28 rfl 0 rfl ?_
    refine q_iload_n C hl dX4_told_29 rfl 1 rfl ?_
    refine q_iload_n C hl dX4_told_30 rfl 3 rfl ?_
    refine q_runi C w fr_all (q_V (As := [.int (jj p), .int (jj side)]) (rest := []) C w fr_all fX4_isCovered gX4_told_X4_isCovered rfl ⟨Nat.le_of_ble_eq_true rfl, Nat.le_of_ble_eq_true rfl⟩ (kX4_isCovered l D cI cC cS h ad σ α ς β τ q p side bW (by omega) (by omega) _) (q0 := 0) rfl rfl rfl rfl hl (Nat.le_of_ble_eq_true rfl) dX4_told_31 ⟨Nat.le_refl 0, Nat.le_refl 0⟩) (fun H locs w => ?_)
    refine q_ifz_eq (tgt := 41) C dX4_told_34 (by decide) (fun c2 => ?_) (fun c2 => ?_)
    · have c2 := c2
      refine q_iconst C dX4_told_41 ?_
      exact q_iret C w dX4_told_42 (by unfold tol bI; (repeat' split) <;> omega) rfl
    · have c2 := c2
      refine q_iconst C dX4_told_37 ?_
      refine q_goto (tgt := 42) C dX4_told_38 (by decide) ?_
      exact q_iret C w dX4_told_42 (by unfold tol bI; (repeat' split) <;> omega) rfl
  by_cases c3 : wh = 1
  · refine q_tabIn (v := 1) (tgt := 43) C dX4_told_2 c3 ⟨by omega, by omega⟩ (by decide) (by decide) rfl (by decide) ?_
    refine q_aload_n C hl dX4_told_43 rfl 0 rfl ?_
    refine q_iload_n C hl dX4_told_44 rfl 1 rfl ?_
    refine q_runi C w fr_all (q_V (As := [.int (jj p)]) (rest := []) C w fr_all fX4_running gX4_told_X4_running rfl ⟨Nat.le_of_ble_eq_true rfl, Nat.le_of_ble_eq_true rfl⟩ (kX4_running l D cI cC cS h ad σ α ς β τ q p bW (by omega) _) (q0 := 0) rfl rfl rfl rfl hl (Nat.le_of_ble_eq_true rfl) dX4_told_45 ⟨Nat.le_refl 0, Nat.le_refl 0⟩) (fun H locs w => ?_)
    exact q_iret C w dX4_told_48 (by unfold tol bI; (repeat' split) <;> omega) rfl
  by_cases c4 : wh = 2
  · refine q_tabIn (v := 2) (tgt := 49) C dX4_told_2 c4 ⟨by omega, by omega⟩ (by decide) (by decide) rfl (by decide) ?_
    refine q_aload_n C hl dX4_told_49 rfl 0 rfl ?_
    refine q_iload_n C hl dX4_told_50 rfl 1 rfl ?_
    refine q_iload_n C hl dX4_told_51 rfl 2 rfl ?_
    refine q_iload_n C hl dX4_told_52 rfl 3 rfl ?_
    refine q_runi C w fr_all (q_V (As := [.int (jj p), .int (jj d), .int (jj side)]) (rest := []) C w fr_all fX4_wetBy gX4_told_X4_wetBy rfl ⟨Nat.le_of_ble_eq_true rfl, Nat.le_of_ble_eq_true rfl⟩ (kX4_wetBy l D cI cC cS h ad σ α ς β τ q p d side bW (by omega) (by omega) (by omega) (by omega) _) (q0 := 0) rfl rfl rfl rfl hl (Nat.le_of_ble_eq_true rfl) dX4_told_53 ⟨Nat.le_refl 0, Nat.le_refl 0⟩) (fun H locs w => ?_)
    exact q_iret C w dX4_told_56 (by unfold tol bI; (repeat' split) <;> omega) rfl
  refine q_tabOut (tgt := 57) C dX4_told_2 ⟨by omega, by omega⟩ (by omega) (by decide) ?_
  refine q_aload_n C hl dX4_told_57 rfl 0 rfl ?_
  refine q_iload_n C hl dX4_told_58 rfl 1 rfl ?_
  refine q_iload_n C hl dX4_told_59 rfl 2 rfl ?_
  refine q_iload_n C hl dX4_told_60 rfl 3 rfl ?_
  refine q_runi C w fr_all (q_V (As := [.int (jj p), .int (jj d), .int (jj side)]) (rest := []) C w fr_all fX4_wetBy gX4_told_X4_wetBy rfl ⟨Nat.le_of_ble_eq_true rfl, Nat.le_of_ble_eq_true rfl⟩ (kX4_wetBy l D cI cC cS h ad σ α ς β τ q p d side bW (by omega) (by omega) (by omega) (by omega) _) (q0 := 0) rfl rfl rfl rfl hl (Nat.le_of_ble_eq_true rfl) dX4_told_61 ⟨Nat.le_refl 0, Nat.le_refl 0⟩) (fun H locs w => ?_)
  refine q_aload_n C hl dX4_told_64 rfl 0 rfl ?_
  refine q_iload_n C hl dX4_told_65 rfl 1 rfl ?_
  refine q_iconst C dX4_told_66 ?_
  refine q_runi C w fr_all (q_V (As := [.int (jj p), .int (jj 2)]) (rest := [.int (jj (wby σ p d side))]) C w fr_all fX4_of gX4_told_X4_of rfl ⟨Nat.le_of_ble_eq_true rfl, Nat.le_of_ble_eq_true rfl⟩ (kX4_of l D cI cC cS h ad σ α ς β τ q p 2 (by omega) (by omega) _) (q0 := 0) rfl rfl rfl rfl hl (Nat.le_of_ble_eq_true rfl) dX4_told_67 ⟨Nat.le_refl 0, Nat.le_refl 0⟩) (fun H locs w => ?_)
  refine q_icmp_le (tgt := 77) C dX4_told_70 (by decide) ⟨by omega, by omega⟩ ⟨by omega, by omega⟩ (fun c5 => ?_) (fun c5 => ?_)
  · have c5 := c5
    refine q_iconst C dX4_told_77 ?_
    exact q_iret C w dX4_told_78 (by unfold tol bI; (repeat' split) <;> omega) rfl
  · have c5 := c5
    refine q_iconst C dX4_told_73 ?_
    refine q_goto (tgt := 78) C dX4_told_74 (by decide) ?_
    exact q_iret C w dX4_told_78 (by unfold tol bI; (repeat' split) <;> omega) rfl

def rX4_ifGust : Room := { frames := 8, cells := 0, slots := 0, locals := 181 }
theorem fX4_ifGust : Fc yX4_ifGust wsX4_ifGust rX4_ifGust cX4_ifGust 5 (some .int) 4 := ⟨⟨_, rfl⟩, rfl, rfl, by decide +kernel, by decide +kernel, by decide +kernel⟩
set_option maxHeartbeats 4000000 in
set_option maxRecDepth 10000 in
theorem kX4_ifGust (l : Launch) (D : va_G) (cI cC cS : ClassId) (h : Nat) (ad : Nat → Nat) (σ α ς β τ q : Int → Int) (p d side wh : Int) (bY : Iv σ) (z_p : -2147483648 ≤ p ∧ p ≤ 2147483647) (z_d : -2147483648 ≤ d ∧ d ≤ 2147483647) (z_side : -2147483648 ≤ side ∧ side ≤ 2147483647) (z_wh : -2147483648 ≤ wh ∧ wh ≤ 2147483647) : Ki l yX4_ifGust wsX4_ifGust rX4_ifGust D (tz cI cC cS) [.ref h, .int (jj p), .int (jj d), .int (jj side), .int (jj wh)] (mW cI h ad σ α ς β τ q) (ifu σ p d side wh) (mW cI h ad σ α ς β τ q) := by
  obtain ⟨bW, bE, bP, bc, bN, bU, b1, b9, b10, bv, bf⟩ := bY
  have hn := bW.1
  have hn2 := bW.2.1
  refine q_entry (cc := cX4_ifGust) (nL := 5) (ret := (some .int)) (by decide) ⟨_, rfl⟩ (Nat.le_of_ble_eq_true rfl) ?_
  intro A pr en s m args below meth c C hin w ls hl
  have w := w
  have hl : lv_has ls 5 [(0, .ref h), (1, .int (jj p)), (2, .int (jj d)), (3, .int (jj side)), (4, .int (jj wh))] := hl
  refine q_aload_n C hl dX4_ifGust_0 rfl 0 rfl ?_
  refine q_iload_n C hl dX4_ifGust_1 rfl 1 rfl ?_
  refine q_runi C w fr_all (q_V (As := [.int (jj p)]) (rest := []) C w fr_all fX4_isPlace gX4_ifGust_X4_isPlace rfl ⟨Nat.le_of_ble_eq_true rfl, Nat.le_of_ble_eq_true rfl⟩ (kX4_isPlace l D cI cC cS h ad σ α ς β τ q p ⟨by omega, by omega⟩ (by omega) _) (q0 := 0) rfl rfl rfl rfl hl (Nat.le_of_ble_eq_true rfl) dX4_ifGust_2 ⟨Nat.le_refl 0, Nat.le_refl 0⟩) (fun H locs w => ?_)
  refine q_ifz_ne (tgt := 12) C dX4_ifGust_5 (by decide) (fun c1 => ?_) (fun c1 => ?_)
  · have c1 := c1
    refine q_iload_n C hl dX4_ifGust_12 rfl 2 rfl ?_
    refine q_iload_n C hl dX4_ifGust_13 rfl 3 rfl ?_
    refine q_runi C w fr_nil (q_S (As := [.int (jj d), .int (jj side)]) (rest := []) C w fr_nil fX4_isGust gX4_ifGust_X4_isGust ⟨Nat.le_of_ble_eq_true rfl, Nat.le_of_ble_eq_true rfl⟩ (kX4_isGust l D cI cC cS d side (by omega) (by omega) _) rfl rfl hl (Nat.le_of_ble_eq_true rfl) dX4_ifGust_14 ⟨Nat.le_refl 0, Nat.le_refl 0⟩) (fun H locs w => ?_)
    refine q_ifz_eq (tgt := 42) C dX4_ifGust_17 (by decide) (fun c2 => ?_) (fun c2 => ?_)
    · have c2 := c2
      refine q_bipush C dX4_ifGust_42 (by decide) ?_
      exact q_iret C w dX4_ifGust_44 (by unfold ifu; (repeat' split) <;> omega) rfl
    · have c2 := c2
      refine q_iload C hl dX4_ifGust_20 4 rfl ?_
      refine q_iconst C dX4_ifGust_22 ?_
      refine q_iconst C dX4_ifGust_23 ?_
      refine q_runi C w fr_nil (q_S (As := [.int (jj wh), .int (jj 0), .int (jj 3)]) (rest := []) C w fr_nil fX4_in gX4_ifGust_X4_in ⟨Nat.le_of_ble_eq_true rfl, Nat.le_of_ble_eq_true rfl⟩ (kX4_in l D cI cC cS wh 0 3 ⟨by omega, by omega⟩ ⟨by omega, by omega⟩ ⟨by omega, by omega⟩ _) rfl rfl hl (Nat.le_of_ble_eq_true rfl) dX4_ifGust_24 ⟨Nat.le_refl 0, Nat.le_refl 0⟩) (fun H locs w => ?_)
      refine q_ifz_eq (tgt := 42) C dX4_ifGust_27 (by decide) (fun c3 => ?_) (fun c3 => ?_)
      · have c3 := c3
        refine q_bipush C dX4_ifGust_42 (by decide) ?_
        exact q_iret C w dX4_ifGust_44 (by unfold ifu; (repeat' split) <;> omega) rfl
      · have c3 := c3
        refine q_aload_n C hl dX4_ifGust_30 rfl 0 rfl ?_
        refine q_iload_n C hl dX4_ifGust_31 rfl 1 rfl ?_
        refine q_iload_n C hl dX4_ifGust_32 rfl 2 rfl ?_
        refine q_iload_n C hl dX4_ifGust_33 rfl 3 rfl ?_
        refine q_iload C hl dX4_ifGust_34 4 rfl ?_
        refine q_runi C w fr_all (q_V (As := [.int (jj p), .int (jj d), .int (jj side), .int (jj wh)]) (rest := []) C w fr_all fX4_told gX4_ifGust_X4_told rfl ⟨Nat.le_of_ble_eq_true rfl, Nat.le_of_ble_eq_true rfl⟩ (kX4_told l D cI cC cS h ad σ α ς β τ q p d side wh bW bE bP (by omega) (by omega) (by omega) (by omega) _) (q0 := 0) rfl rfl rfl rfl hl (Nat.le_of_ble_eq_true rfl) dX4_ifGust_36 ⟨Nat.le_refl 0, Nat.le_refl 0⟩) (fun H locs w => ?_)
        refine q_goto (tgt := 44) C dX4_ifGust_39 (by decide) ?_
        exact q_iret C w dX4_ifGust_44 (by unfold ifu; (repeat' split) <;> omega) rfl
  · have c1 := c1
    refine q_iconst C dX4_ifGust_8 ?_
    refine q_goto (tgt := 44) C dX4_ifGust_9 (by decide) ?_
    exact q_iret C w dX4_ifGust_44 (by unfold ifu; (repeat' split) <;> omega) rfl

def rX4_reason : Room := { frames := 3, cells := 0, slots := 0, locals := 67 }
theorem fX4_reason : Fc yX4_reason wsX4_reason rX4_reason cX4_reason 2 (some .int) 1 := ⟨⟨_, rfl⟩, rfl, rfl, by decide +kernel, by decide +kernel, by decide +kernel⟩
set_option maxHeartbeats 4000000 in
set_option maxRecDepth 10000 in
theorem kX4_reason (l : Launch) (D : va_G) (cI cC cS : ClassId) (h : Nat) (ad : Nat → Nat) (σ α ς β τ q : Int → Int) (p : Int) (bY : Iv σ) (z_p : -2147483648 ≤ p ∧ p ≤ 2147483647) : Ki l yX4_reason wsX4_reason rX4_reason D (tz cI cC cS) [.ref h, .int (jj p)] (mW cI h ad σ α ς β τ q) (reu σ p) (mW cI h ad σ α ς β τ q) := by
  obtain ⟨bW, bE, bP, bc, bN, bU, b1, b9, b10, bv, bf⟩ := bY
  have hn := bW.1
  have hn2 := bW.2.1
  refine q_entry (cc := cX4_reason) (nL := 2) (ret := (some .int)) (by decide) ⟨_, rfl⟩ (Nat.le_of_ble_eq_true rfl) ?_
  intro A pr en s m args below meth c C hin w ls hl
  have w := w
  have hl : lv_has ls 2 [(0, .ref h), (1, .int (jj p))] := hl
  refine q_aload_n C hl dX4_reason_0 rfl 0 rfl ?_
  refine q_iload_n C hl dX4_reason_1 rfl 1 rfl ?_
  refine q_runi C w fr_all (q_V (As := [.int (jj p)]) (rest := []) C w fr_all fX4_arePair gX4_reason_X4_arePair rfl ⟨Nat.le_of_ble_eq_true rfl, Nat.le_of_ble_eq_true rfl⟩ (kX4_arePair l D cI cC cS h ad σ α ς β τ q p ⟨by omega, by omega⟩ (by omega) _) (q0 := 0) rfl rfl rfl rfl hl (Nat.le_of_ble_eq_true rfl) dX4_reason_2 ⟨Nat.le_refl 0, Nat.le_refl 0⟩) (fun H locs w => ?_)
  refine q_ifz_eq (tgt := 16) C dX4_reason_5 (by decide) (fun c1 => ?_) (fun c1 => ?_)
  · have c1 := c1
    refine q_iconst C dX4_reason_16 ?_
    exact q_iret C w dX4_reason_17 (by unfold reu; (repeat' split) <;> omega) rfl
  · have c1 := c1
    refine q_aload_n C hl dX4_reason_8 rfl 0 rfl ?_
    refine q_iload_n C hl dX4_reason_9 rfl 1 rfl ?_
    refine q_runi C w fr_all (q_V (As := [.int (jj p)]) (rest := []) C w fr_all fX4_why gX4_reason_X4_why rfl ⟨Nat.le_of_ble_eq_true rfl, Nat.le_of_ble_eq_true rfl⟩ (kX4_why l D cI cC cS h ad σ α ς β τ q p (by omega) bW bE _) (q0 := 0) rfl rfl rfl rfl hl (Nat.le_of_ble_eq_true rfl) dX4_reason_10 ⟨Nat.le_refl 0, Nat.le_refl 0⟩) (fun H locs w => ?_)
    refine q_goto (tgt := 17) C dX4_reason_13 (by decide) ?_
    exact q_iret C w dX4_reason_17 (by unfold reu; (repeat' split) <;> omega) rfl

def rX4_allWetBy : Room := { frames := 7, cells := 0, slots := 0, locals := 157 }
theorem fX4_allWetBy : Fc yX4_allWetBy wsX4_allWetBy rX4_allWetBy cX4_allWetBy 5 (some .int) 2 := ⟨⟨_, rfl⟩, rfl, rfl, by decide +kernel, by decide +kernel, by decide +kernel⟩
set_option maxHeartbeats 4000000 in
set_option maxRecDepth 10000 in
theorem kX4_allWetBy (l : Launch) (D : va_G) (cI cC cS : ClassId) (h : Nat) (ad : Nat → Nat) (σ α ς β τ q : Int → Int) (d side : Int) (bW : Wi σ) (bE : We σ) (bd : 1 ≤ d ∧ d ≤ 99) (bs : 0 ≤ side ∧ side ≤ 2) : Ki l yX4_allWetBy wsX4_allWetBy rX4_allWetBy D (tz cI cC cS) [.ref h, .int (jj d), .int (jj side)] (mW cI h ad σ α ς β τ q) (awb σ d side) (mW cI h ad σ α ς β τ q) := by
  have hn := bW.1
  have hn2 := bW.2.1
  refine q_entry (cc := cX4_allWetBy) (nL := 5) (ret := (some .int)) (by decide) ⟨_, rfl⟩ (Nat.le_of_ble_eq_true rfl) ?_
  intro A pr en s m args below meth c C hin w ls hl
  have w := w
  have hl : lv_has ls 5 [(0, .ref h), (1, .int (jj d)), (2, .int (jj side))] := hl
  refine q_iconst C dX4_allWetBy_0 ?_
  refine q_istore_n (lv' := [(3, .int (jj 0)), (0, .ref h), (1, .int (jj d)), (2, .int (jj side))]) C hl dX4_allWetBy_1 rfl (by decide) rfl (fun ls hl => ?_)
  refine q_iconst C dX4_allWetBy_2 ?_
  refine q_istore (lv' := [(4, .int (jj 0)), (3, .int (jj 0)), (0, .ref h), (1, .int (jj d)), (2, .int (jj side))]) C hl dX4_allWetBy_3 (by decide) rfl (fun ls hl => ?_)
  have loop5 : ∀ (n5 : Nat) (i : Int) (a : Int), (0 ≤ i) → (i ≤ σ 0) → (a = awf σ d side i) → (σ 0 - i).toNat < n5 → ∀ (H : Heap) (locs : List Loc), Wd D A s (mW cI h ad σ α ς β τ q) H locs → ∀ ls : Array Slot, lv_has ls 5 [(0, .ref h), (1, .int (jj d)), (2, .int (jj side)), (3, .int (jj a)), (4, .int (jj i))] → W pr l en rX4_allWetBy s m args below meth c H locs 0 0 (MQ below (Qi D (tz cI cC cS) (awb σ d side) (mW cI h ad σ α ς β τ q) A) args s 0 0 A) (F0 m 5 ls []) := by
    intro n5
    induction n5 with
    | zero => intro i a hi0 hi1 ha hm; exact absurd hm (Nat.not_lt_zero _)
    | succ n5 ih5 =>
      intro i a hi0 hi1 ha hm5 H locs w ls hl
      refine q_iload C hl dX4_allWetBy_5 4 rfl ?_
      refine q_aload_n C hl dX4_allWetBy_7 rfl 0 rfl ?_
      refine q_getM C w.1 (fun w h => List.mem_cons_of_mem _ (List.mem_append_right _ h)) 0 (by decide) (List.mem_of_getElem? (i := 1) rfl) rfl dX4_allWetBy_8 ?_
      refine q_iconst C dX4_allWetBy_11 ?_
      refine q_Mld C w.1 ⟨by omega, by omega⟩ dX4_allWetBy_12 ?_
      refine q_icmp_ge (tgt := 33) C dX4_allWetBy_13 (by decide) ⟨by omega, by omega⟩ ⟨by omega, by omega⟩ (fun c1 => ?_) (fun c1 => ?_)
      · have c1 := c1
        refine q_iload_n C hl dX4_allWetBy_33 rfl 3 rfl ?_
        exact q_iret C w dX4_allWetBy_34 (by unfold awb; rw [ha, show i = σ 0 by omega]) rfl
      · have c1 := c1
        have hq := bE i hi0 (by omega)
        refine q_iload_n C hl dX4_allWetBy_16 rfl 3 rfl ?_
        refine q_aload_n C hl dX4_allWetBy_17 rfl 0 rfl ?_
        refine q_iload C hl dX4_allWetBy_18 4 rfl ?_
        refine q_iload_n C hl dX4_allWetBy_20 rfl 1 rfl ?_
        refine q_iload_n C hl dX4_allWetBy_21 rfl 2 rfl ?_
        refine q_runi C w fr_all (q_V (As := [.int (jj i), .int (jj d), .int (jj side)]) (rest := [.int (jj a)]) C w fr_all fX4_wetBy gX4_allWetBy_X4_wetBy rfl ⟨Nat.le_of_ble_eq_true rfl, Nat.le_of_ble_eq_true rfl⟩ (kX4_wetBy l D cI cC cS h ad σ α ς β τ q i d side bW (by omega) (by omega) (by omega) (by omega) _) (q0 := 0) rfl rfl rfl rfl hl (Nat.le_of_ble_eq_true rfl) dX4_allWetBy_22 ⟨Nat.le_refl 0, Nat.le_refl 0⟩) (fun H locs w => ?_)
        refine q_iadd C dX4_allWetBy_25 ?_
        refine q_istore_n (lv' := [(3, .int (jj (a + (wby σ i d side)))), (0, .ref h), (1, .int (jj d)), (2, .int (jj side)), (4, .int (jj i))]) C hl dX4_allWetBy_26 rfl (by decide) rfl (fun ls hl => ?_)
        refine q_iinc (lv' := [(4, .int (jj (i + 1))), (3, .int (jj (a + (wby σ i d side)))), (0, .ref h), (1, .int (jj d)), (2, .int (jj side))]) C hl dX4_allWetBy_27 4 rfl (by decide) rfl (fun ls hl => ?_)
        refine q_goto (tgt := 5) C dX4_allWetBy_30 (by decide) ?_
        exact ih5 (i + 1) (a + (wby σ i d side)) (by omega) (by omega) (by rw [awf_s σ d side hi0, ← ha]) (by omega) _ _ w ls (lv_sub hl [2, 3, 4, 1, 0] rfl)
  exact loop5 _ 0 0 (by omega) (by omega) rfl (Nat.lt_succ_self _) _ _ w ls (lv_sub hl [2, 3, 4, 1, 0] rfl)

def rX4_bestSwap : Room := { frames := 8, cells := 0, slots := 0, locals := 181 }
theorem fX4_bestSwap : Fc yX4_bestSwap wsX4_bestSwap rX4_bestSwap cX4_bestSwap 7 (some .int) 2 := ⟨⟨_, rfl⟩, rfl, rfl, by decide +kernel, by decide +kernel, by decide +kernel⟩
set_option maxHeartbeats 4000000 in
set_option maxRecDepth 10000 in
theorem kX4_bestSwap (l : Launch) (D : va_G) (cI cC cS : ClassId) (h : Nat) (ad : Nat → Nat) (σ α ς β τ q : Int → Int) (d side : Int) (bY : Iv σ) (z_d : -2147483648 ≤ d ∧ d ≤ 2147483647) (z_side : -2147483648 ≤ side ∧ side ≤ 2147483647) : Ki l yX4_bestSwap wsX4_bestSwap rX4_bestSwap D (tz cI cC cS) [.ref h, .int (jj d), .int (jj side)] (mW cI h ad σ α ς β τ q) (bsu σ d side) (mW cI h ad σ α ς β τ q) := by
  obtain ⟨bW, bE, bP, bc, bN, bU, b1, b9, b10, bv, bf⟩ := bY
  have hn := bW.1
  have hn2 := bW.2.1
  refine q_entry (cc := cX4_bestSwap) (nL := 7) (ret := (some .int)) (by decide) ⟨_, rfl⟩ (Nat.le_of_ble_eq_true rfl) ?_
  intro A pr en s m args below meth c C hin w ls hl
  have w := w
  have hl : lv_has ls 7 [(0, .ref h), (1, .int (jj d)), (2, .int (jj side))] := hl
  refine q_iload_n C hl dX4_bestSwap_0 rfl 1 rfl ?_
  refine q_iload_n C hl dX4_bestSwap_1 rfl 2 rfl ?_
  refine q_runi C w fr_nil (q_S (As := [.int (jj d), .int (jj side)]) (rest := []) C w fr_nil fX4_isGust gX4_bestSwap_X4_isGust ⟨Nat.le_of_ble_eq_true rfl, Nat.le_of_ble_eq_true rfl⟩ (kX4_isGust l D cI cC cS d side (by omega) (by omega) _) rfl rfl hl (Nat.le_of_ble_eq_true rfl) dX4_bestSwap_2 ⟨Nat.le_refl 0, Nat.le_refl 0⟩) (fun H locs w => ?_)
  refine q_ifz_ne (tgt := 11) C dX4_bestSwap_5 (by decide) (fun c1 => ?_) (fun c1 => ?_)
  · have c1 := c1
    refine q_bipush C dX4_bestSwap_11 (by decide) ?_
    refine q_istore_n (lv' := [(3, .int (jj (-5))), (0, .ref h), (1, .int (jj d)), (2, .int (jj side))]) C hl dX4_bestSwap_13 rfl (by decide) rfl (fun ls hl => ?_)
    refine q_aload_n C hl dX4_bestSwap_14 rfl 1 rfl ?_
    refine q_iload_n C hl dX4_bestSwap_15 rfl 2 rfl ?_
    refine q_iload_n C hl dX4_bestSwap_16 rfl 3 rfl ?_
    refine q_runi C w fr_all (q_V (As := [.int (jj d), .int (jj side)]) (rest := []) C w fr_all fX4_allWetBy gX4_bestSwap_X4_allWetBy rfl ⟨Nat.le_of_ble_eq_true rfl, Nat.le_of_ble_eq_true rfl⟩ (kX4_allWetBy l D cI cC cS h ad σ α ς β τ q d side bW bE (by omega) (by omega) _) (q0 := 0) rfl rfl rfl rfl hl (Nat.le_of_ble_eq_true rfl) dX4_bestSwap_17 ⟨Nat.le_refl 0, Nat.le_refl 0⟩) (fun H locs w => ?_)
    refine q_istore (lv' := [(4, .int (jj (awb σ d side))), (3, .int (jj (-5))), (0, .ref h), (1, .int (jj d)), (2, .int (jj side))]) C hl dX4_bestSwap_20 (by decide) rfl (fun ls hl => ?_)
    refine q_iconst C dX4_bestSwap_22 ?_
    refine q_istore (lv' := [(5, .int (jj 0)), (4, .int (jj (awb σ d side))), (3, .int (jj (-5))), (0, .ref h), (1, .int (jj d)), (2, .int (jj side))]) C hl dX4_bestSwap_23 (by decide) rfl (fun ls hl => ?_)
    have loop25 : ∀ (n25 : Nat) (i : Int) (f : Int) (mn : Int), (0 ≤ i) → (i = 0 ∨ i + 1 ≤ σ 0) → ((f, mn) = bsl σ d side i ∧ -5 ≤ f ∧ f ≤ 15 ∧ 0 ≤ mn ∧ mn ≤ 15984) → (σ 0 - i).toNat < n25 → ∀ (H : Heap) (locs : List Loc), Wd D A s (mW cI h ad σ α ς β τ q) H locs → ∀ ls : Array Slot, lv_has ls 7 [(0, .ref h), (1, .int (jj d)), (2, .int (jj side)), (3, .int (jj f)), (4, .int (jj mn)), (5, .int (jj i))] → W pr l en rX4_bestSwap s m args below meth c H locs 0 0 (MQ below (Qi D (tz cI cC cS) (bsu σ d side) (mW cI h ad σ α ς β τ q) A) args s 0 0 A) (F0 m 25 ls []) := by
      intro n25
      induction n25 with
      | zero => intro i f mn hi0 hi1 hf hm; exact absurd hm (Nat.not_lt_zero _)
      | succ n25 ih25 =>
        intro i f mn hi0 hi1 hf hm25 H locs w ls hl
        refine q_iload C hl dX4_bestSwap_25 5 rfl ?_
        refine q_iconst C dX4_bestSwap_27 ?_
        refine q_iadd C dX4_bestSwap_28 ?_
        refine q_aload_n C hl dX4_bestSwap_29 rfl 0 rfl ?_
        refine q_getM C w.1 (fun w h => List.mem_cons_of_mem _ (List.mem_append_right _ h)) 0 (by decide) (List.mem_of_getElem? (i := 1) rfl) rfl dX4_bestSwap_30 ?_
        refine q_iconst C dX4_bestSwap_33 ?_
        refine q_Mld C w.1 ⟨by omega, by omega⟩ dX4_bestSwap_34 ?_
        refine q_icmp_ge (tgt := 105) C dX4_bestSwap_35 (by decide) ⟨by omega, by omega⟩ ⟨by omega, by omega⟩ (fun c2 => ?_) (fun c2 => ?_)
        · have c2 := c2
          refine q_iload_n C hl dX4_bestSwap_105 rfl 3 rfl ?_
          exact q_iret C w dX4_bestSwap_106 (by have ee : bsl σ d side (σ 0 - 1) = bsl σ d side i := (if h0 : 1 ≤ σ 0 then (by rw [show σ 0 - 1 = i by omega]) else (by unfold bsl; rw [it_z _ _ (by omega), it_z _ _ (by omega)])); unfold bsu; rw [if_pos (by omega), ee, ← hf.1]) rfl
        · have c2 := c2
          have hy := why_b σ i
          refine q_aload_n C hl dX4_bestSwap_38 rfl 0 rfl ?_
          refine q_iload C hl dX4_bestSwap_39 5 rfl ?_
          refine q_runi C w fr_all (q_V (As := [.int (jj i)]) (rest := []) C w fr_all fX4_why gX4_bestSwap_X4_why rfl ⟨Nat.le_of_ble_eq_true rfl, Nat.le_of_ble_eq_true rfl⟩ (kX4_why l D cI cC cS h ad σ α ς β τ q i (by omega) bW bE _) (q0 := 0) rfl rfl rfl rfl hl (Nat.le_of_ble_eq_true rfl) dX4_bestSwap_41 ⟨Nat.le_refl 0, Nat.le_refl 0⟩) (fun H locs w => ?_)
          refine q_if_ne (tgt := 99) C dX4_bestSwap_44 (by decide) ⟨by omega, by omega⟩ (fun c3 => ?_) (fun c3 => ?_)
          · have c3 := c3
            refine q_iinc (lv' := [(5, .int (jj (i + 1))), (0, .ref h), (1, .int (jj d)), (2, .int (jj side)), (3, .int (jj f)), (4, .int (jj mn))]) C hl dX4_bestSwap_99 5 rfl (by decide) rfl (fun ls hl => ?_)
            refine q_goto (tgt := 25) C dX4_bestSwap_102 (by decide) ?_
            exact ih25 (i + 1) f mn (by omega) (by omega) ⟨by rw [bsl_s σ d side hi0, ← hf.1]; show _ = (if why σ i = 0 then (if awb (xch σ i 4) d side < mn then (i, awb (xch σ i 4) d side) else (f, mn)) else (f, mn)); (repeat' split) <;> first | rfl | (exfalso; omega), by omega, by omega, by omega, by omega⟩ (by omega) _ _ w ls (lv_sub hl [1, 2, 3, 4, 5, 0] rfl)
          · have c3 := c3
            refine q_aload_n C hl dX4_bestSwap_47 rfl 0 rfl ?_
            refine q_iload C hl dX4_bestSwap_48 5 rfl ?_
            refine q_iconst C dX4_bestSwap_50 ?_
            refine q_runv C w fr_all (q_V (As := [.int (jj i), .int (jj 4)]) (rest := []) C w fr_all fX4_exchange gX4_bestSwap_X4_exchange rfl ⟨Nat.le_of_ble_eq_true rfl, Nat.le_of_ble_eq_true rfl⟩ (kX4_exchange l D cI cC cS h ad σ α ς β τ q i 4 (by omega) (by omega) _) (q0 := 0) rfl rfl rfl rfl hl (Nat.le_of_ble_eq_true rfl) dX4_bestSwap_51 ⟨Nat.le_refl 0, Nat.le_refl 0⟩) (fun H locs w => ?_)
            have xW := xch_W bW hi0 (by omega)
            have xE := xch_E bE hi0
            have xb := awb_b xW xE (d := d) (side := side) (by omega) (by omega)
            have x0 := xch_lo σ (p := i) (k := 4) (j := 0) hi0 (by omega) (by omega)
            refine q_aload_n C hl dX4_bestSwap_54 rfl 0 rfl ?_
            refine q_iload_n C hl dX4_bestSwap_55 rfl 1 rfl ?_
            refine q_iload_n C hl dX4_bestSwap_56 rfl 2 rfl ?_
            refine q_runi C w fr_all (q_V (As := [.int (jj d), .int (jj side)]) (rest := []) C w fr_all fX4_allWetBy gX4_bestSwap_X4_allWetBy rfl ⟨Nat.le_of_ble_eq_true rfl, Nat.le_of_ble_eq_true rfl⟩ (kX4_allWetBy l D cI cC cS h ad (xch σ i 4) α ς β τ q d side xW xE (by omega) (by omega) _) (q0 := 0) rfl rfl rfl rfl hl (Nat.le_of_ble_eq_true rfl) dX4_bestSwap_57 ⟨Nat.le_refl 0, Nat.le_refl 0⟩) (fun H locs w => ?_)
            refine q_istore (lv' := [(6, .int (jj (awb (xch σ i 4) d side))), (0, .ref h), (1, .int (jj d)), (2, .int (jj side)), (3, .int (jj f)), (4, .int (jj mn)), (5, .int (jj i))]) C hl dX4_bestSwap_60 (by decide) rfl (fun ls hl => ?_)
            refine q_aload_n C hl dX4_bestSwap_62 rfl 1 rfl ?_
            refine q_iload C hl dX4_bestSwap_63 6 rfl ?_
            refine q_iconst C dX4_bestSwap_65 ?_
            refine q_runv C w fr_all (q_V (As := [.int (jj i), .int (jj 4)]) (rest := []) C w fr_all fX4_exchange gX4_bestSwap_X4_exchange rfl ⟨Nat.le_of_ble_eq_true rfl, Nat.le_of_ble_eq_true rfl⟩ (kX4_exchange l D cI cC cS h ad (xch σ i 4) α ς β τ q i 4 (by omega) (by omega) _) (q0 := 0) rfl rfl rfl rfl hl (Nat.le_of_ble_eq_true rfl) dX4_bestSwap_66 ⟨Nat.le_refl 0, Nat.le_refl 0⟩) (fun H locs w => ?_)
            rw [xch_xch] at w
            refine q_iload C hl dX4_bestSwap_69 0 rfl ?_
            refine q_iload C hl dX4_bestSwap_71 5 rfl ?_
            refine q_icmp_ge (tgt := 81) C dX4_bestSwap_73 (by decide) ⟨by omega, by omega⟩ ⟨by omega, by omega⟩ (fun c4 => ?_) (fun c4 => ?_)
            · have c4 := c4
              refine q_iload_n C hl dX4_bestSwap_81 rfl 4 rfl ?_
              refine q_istore_n (lv' := [(3, .int (jj f)), (6, .int (jj (awb (xch σ i 4) d side))), (0, .ref h), (1, .int (jj d)), (2, .int (jj side)), (4, .int (jj mn)), (5, .int (jj i))]) C hl dX4_bestSwap_82 rfl (by decide) rfl (fun ls hl => ?_)
              refine q_iload C hl dX4_bestSwap_83 1 rfl ?_
              refine q_iload C hl dX4_bestSwap_85 5 rfl ?_
              refine q_icmp_ge (tgt := 95) C dX4_bestSwap_87 (by decide) ⟨by omega, by omega⟩ ⟨by omega, by omega⟩ (fun c5 => ?_) (fun c5 => ?_)
              · have c5 := c5
                refine q_iload C hl dX4_bestSwap_95 5 rfl ?_
                refine q_istore (lv' := [(4, .int (jj mn)), (3, .int (jj f)), (6, .int (jj (awb (xch σ i 4) d side))), (0, .ref h), (1, .int (jj d)), (2, .int (jj side)), (5, .int (jj i))]) C hl dX4_bestSwap_97 (by decide) rfl (fun ls hl => ?_)
                refine q_iinc (lv' := [(5, .int (jj (i + 1))), (4, .int (jj mn)), (3, .int (jj f)), (6, .int (jj (awb (xch σ i 4) d side))), (0, .ref h), (1, .int (jj d)), (2, .int (jj side))]) C hl dX4_bestSwap_99 6 rfl (by decide) rfl (fun ls hl => ?_)
                refine q_goto (tgt := 25) C dX4_bestSwap_102 (by decide) ?_
                exact ih25 (i + 1) f mn (by omega) (by omega) ⟨by rw [bsl_s σ d side hi0, ← hf.1]; show _ = (if why σ i = 0 then (if awb (xch σ i 4) d side < mn then (i, awb (xch σ i 4) d side) else (f, mn)) else (f, mn)); (repeat' split) <;> first | rfl | (exfalso; omega), by omega, by omega, by omega, by omega⟩ (by omega) _ _ w ls (lv_sub hl [4, 5, 6, 2, 1, 0] rfl)
              · have c5 := c5
                refine q_iload C hl dX4_bestSwap_90 1 rfl ?_
                refine q_goto (tgt := 97) C dX4_bestSwap_92 (by decide) ?_
                refine q_istore (lv' := [(4, .int (jj (awb (xch σ i 4) d side))), (3, .int (jj f)), (6, .int (jj (awb (xch σ i 4) d side))), (0, .ref h), (1, .int (jj d)), (2, .int (jj side)), (5, .int (jj i))]) C hl dX4_bestSwap_97 (by decide) rfl (fun ls hl => ?_)
                refine q_iinc (lv' := [(5, .int (jj (i + 1))), (4, .int (jj (awb (xch σ i 4) d side))), (3, .int (jj f)), (6, .int (jj (awb (xch σ i 4) d side))), (0, .ref h), (1, .int (jj d)), (2, .int (jj side))]) C hl dX4_bestSwap_99 6 rfl (by decide) rfl (fun ls hl => ?_)
                refine q_goto (tgt := 25) C dX4_bestSwap_102 (by decide) ?_
                exact ih25 (i + 1) f (awb (xch σ i 4) d side) (by omega) (by omega) ⟨by rw [bsl_s σ d side hi0, ← hf.1]; show _ = (if why σ i = 0 then (if awb (xch σ i 4) d side < mn then (i, awb (xch σ i 4) d side) else (f, mn)) else (f, mn)); (repeat' split) <;> first | rfl | (exfalso; omega), by omega, by omega, by omega, by omega⟩ (by omega) _ _ w ls (lv_sub hl [4, 5, 6, 2, 1, 0] rfl)
            · have c4 := c4
              refine q_iload C hl dX4_bestSwap_76 6 rfl ?_
              refine q_goto (tgt := 82) C dX4_bestSwap_78 (by decide) ?_
              refine q_istore_n (lv' := [(3, .int (jj i)), (6, .int (jj (awb (xch σ i 4) d side))), (0, .ref h), (1, .int (jj d)), (2, .int (jj side)), (4, .int (jj mn)), (5, .int (jj i))]) C hl dX4_bestSwap_82 rfl (by decide) rfl (fun ls hl => ?_)
              refine q_iload C hl dX4_bestSwap_83 1 rfl ?_
              refine q_iload C hl dX4_bestSwap_85 5 rfl ?_
              refine q_icmp_ge (tgt := 95) C dX4_bestSwap_87 (by decide) ⟨by omega, by omega⟩ ⟨by omega, by omega⟩ (fun c6 => ?_) (fun c6 => ?_)
              · have c6 := c6
                refine q_iload C hl dX4_bestSwap_95 5 rfl ?_
                refine q_istore (lv' := [(4, .int (jj mn)), (3, .int (jj i)), (6, .int (jj (awb (xch σ i 4) d side))), (0, .ref h), (1, .int (jj d)), (2, .int (jj side)), (5, .int (jj i))]) C hl dX4_bestSwap_97 (by decide) rfl (fun ls hl => ?_)
                refine q_iinc (lv' := [(5, .int (jj (i + 1))), (4, .int (jj mn)), (3, .int (jj i)), (6, .int (jj (awb (xch σ i 4) d side))), (0, .ref h), (1, .int (jj d)), (2, .int (jj side))]) C hl dX4_bestSwap_99 6 rfl (by decide) rfl (fun ls hl => ?_)
                refine q_goto (tgt := 25) C dX4_bestSwap_102 (by decide) ?_
                exact ih25 (i + 1) i mn (by omega) (by omega) ⟨by rw [bsl_s σ d side hi0, ← hf.1]; show _ = (if why σ i = 0 then (if awb (xch σ i 4) d side < mn then (i, awb (xch σ i 4) d side) else (f, mn)) else (f, mn)); (repeat' split) <;> first | rfl | (exfalso; omega), by omega, by omega, by omega, by omega⟩ (by omega) _ _ w ls (lv_sub hl [4, 5, 6, 2, 1, 0] rfl)
              · have c6 := c6
                refine q_iload C hl dX4_bestSwap_90 1 rfl ?_
                refine q_goto (tgt := 97) C dX4_bestSwap_92 (by decide) ?_
                refine q_istore (lv' := [(4, .int (jj (awb (xch σ i 4) d side))), (3, .int (jj i)), (6, .int (jj (awb (xch σ i 4) d side))), (0, .ref h), (1, .int (jj d)), (2, .int (jj side)), (5, .int (jj i))]) C hl dX4_bestSwap_97 (by decide) rfl (fun ls hl => ?_)
                refine q_iinc (lv' := [(5, .int (jj (i + 1))), (4, .int (jj (awb (xch σ i 4) d side))), (3, .int (jj i)), (6, .int (jj (awb (xch σ i 4) d side))), (0, .ref h), (1, .int (jj d)), (2, .int (jj side))]) C hl dX4_bestSwap_99 6 rfl (by decide) rfl (fun ls hl => ?_)
                refine q_goto (tgt := 25) C dX4_bestSwap_102 (by decide) ?_
                exact ih25 (i + 1) i (awb (xch σ i 4) d side) (by omega) (by omega) ⟨by rw [bsl_s σ d side hi0, ← hf.1]; show _ = (if why σ i = 0 then (if awb (xch σ i 4) d side < mn then (i, awb (xch σ i 4) d side) else (f, mn)) else (f, mn)); (repeat' split) <;> first | rfl | (exfalso; omega), by omega, by omega, by omega, by omega⟩ (by omega) _ _ w ls (lv_sub hl [4, 5, 6, 2, 1, 0] rfl)
    exact loop25 _ 0 (-5) (awb σ d side) (by omega) (by omega) ⟨rfl, by omega, by omega, (awb_b bW bE (by omega) (by omega)).1, (awb_b bW bE (by omega) (by omega)).2⟩ (Nat.lt_succ_self _) _ _ w ls (lv_sub hl [3, 4, 5, 2, 1, 0] rfl)
  · have c1 := c1
    refine q_bipush C dX4_bestSwap_8 (by decide) ?_
    exact q_iret C w dX4_bestSwap_10 (by unfold bsu; (repeat' split) <;> omega) rfl

def rX4_payer : Room := { frames := 4, cells := 0, slots := 0, locals := 86 }
theorem fX4_payer : Fc yX4_payer wsX4_payer rX4_payer cX4_payer 2 (some .int) 1 := ⟨⟨_, rfl⟩, rfl, rfl, by decide +kernel, by decide +kernel, by decide +kernel⟩
set_option maxHeartbeats 4000000 in
set_option maxRecDepth 10000 in
theorem kX4_payer (l : Launch) (D : va_G) (cI cC cS : ClassId) (h : Nat) (ad : Nat → Nat) (σ α ς β τ q : Int → Int) (wh : Int) (bY : Iv σ) (z_wh : -2147483648 ≤ wh ∧ wh ≤ 2147483647) : Ki l yX4_payer wsX4_payer rX4_payer D (tz cI cC cS) [.ref h, .int (jj wh)] (mW cI h ad σ α ς β τ q) (pyu σ wh) (mW cI h ad σ α ς β τ q) := by
  obtain ⟨bW, bE, bP, bc, bN, bU, b1, b9, b10, bv, bf⟩ := bY
  have hn := bW.1
  have hn2 := bW.2.1
  refine q_entry (cc := cX4_payer) (nL := 2) (ret := (some .int)) (by decide) ⟨_, rfl⟩ (Nat.le_of_ble_eq_true rfl) ?_
  intro A pr en s m args below meth c C hin w ls hl
  have w := w
  have hl : lv_has ls 2 [(0, .ref h), (1, .int (jj wh))] := hl
  refine q_iload_n C hl dX4_payer_0 rfl 1 rfl ?_
  refine q_iconst C dX4_payer_1 ?_
  refine q_iconst C dX4_payer_2 ?_
  refine q_runi C w fr_nil (q_S (As := [.int (jj wh), .int (jj 0), .int (jj 1)]) (rest := []) C w fr_nil fX4_in gX4_payer_X4_in ⟨Nat.le_of_ble_eq_true rfl, Nat.le_of_ble_eq_true rfl⟩ (kX4_in l D cI cC cS wh 0 1 ⟨by omega, by omega⟩ ⟨by omega, by omega⟩ ⟨by omega, by omega⟩ _) rfl rfl hl (Nat.le_of_ble_eq_true rfl) dX4_payer_3 ⟨Nat.le_refl 0, Nat.le_refl 0⟩) (fun H locs w => ?_)
  refine q_ifz_ne (tgt := 12) C dX4_payer_6 (by decide) (fun c1 => ?_) (fun c1 => ?_)
  · have c1 := c1
    refine q_aload_n C hl dX4_payer_12 rfl 0 rfl ?_
    refine q_getM C w.1 (fun w h => List.mem_cons_of_mem _ (List.mem_append_right _ h)) 0 (by decide) (List.mem_of_getElem? (i := 1) rfl) rfl dX4_payer_13 ?_
    refine q_iconst C dX4_payer_16 ?_
    refine q_Mld C w.1 ⟨by omega, by omega⟩ dX4_payer_17 ?_
    refine q_if_ne (tgt := 26) C dX4_payer_18 (by decide) ⟨by omega, by omega⟩ (fun c2 => ?_) (fun c2 => ?_)
    · have c2 := c2
      refine q_iload_n C hl dX4_payer_26 rfl 1 rfl ?_
      refine q_if_ne (tgt := 37) C dX4_payer_27 (by decide) ⟨by omega, by omega⟩ (fun c3 => ?_) (fun c3 => ?_)
      · have c3 := c3
        refine q_aload_n C hl dX4_payer_37 rfl 0 rfl ?_
        refine q_runi C w fr_all (q_V (As := []) (rest := []) C w fr_all fX4_coinsPaid gX4_payer_X4_coinsPaid rfl ⟨Nat.le_of_ble_eq_true rfl, Nat.le_of_ble_eq_true rfl⟩ (kX4_coinsPaid l D cI cC cS h ad σ α ς β τ q  (by omega) (by omega) (by omega) bE bc _) (q0 := 0) rfl rfl rfl rfl hl (Nat.le_of_ble_eq_true rfl) dX4_payer_38 ⟨Nat.le_refl 0, Nat.le_refl 0⟩) (fun H locs w => ?_)
        exact q_iret C w dX4_payer_41 (by unfold pyu; (repeat' split) <;> omega) rfl
      · have c3 := c3
        refine q_aload_n C hl dX4_payer_30 rfl 0 rfl ?_
        refine q_runi C w fr_all (q_V (As := []) (rest := []) C w fr_all fX4_driest gX4_payer_X4_driest rfl ⟨Nat.le_of_ble_eq_true rfl, Nat.le_of_ble_eq_true rfl⟩ (kX4_driest l D cI cC cS h ad σ α ς β τ q  (by omega) (by omega) bE _) (q0 := 0) rfl rfl rfl rfl hl (Nat.le_of_ble_eq_true rfl) dX4_payer_31 ⟨Nat.le_refl 0, Nat.le_refl 0⟩) (fun H locs w => ?_)
        refine q_goto (tgt := 41) C dX4_payer_34 (by decide) ?_
        exact q_iret C w dX4_payer_41 (by unfold pyu; (repeat' split) <;> omega) rfl
    · have c2 := c2
      refine q_bipush C dX4_payer_21 (by decide) ?_
      refine q_goto (tgt := 41) C dX4_payer_23 (by decide) ?_
      exact q_iret C w dX4_payer_41 (by unfold pyu; (repeat' split) <;> omega) rfl
  · have c1 := c1
    refine q_bipush C dX4_payer_9 (by decide) ?_
    exact q_iret C w dX4_payer_11 (by unfold pyu; (repeat' split) <;> omega) rfl

def rX4_bears : Room := { frames := 6, cells := 0, slots := 0, locals := 133 }
theorem fX4_bears : Fc yX4_bears wsX4_bears rX4_bears cX4_bears 4 (some .int) 2 := ⟨⟨_, rfl⟩, rfl, rfl, by decide +kernel, by decide +kernel, by decide +kernel⟩
set_option maxHeartbeats 4000000 in
set_option maxRecDepth 10000 in
theorem kX4_bears (l : Launch) (D : va_G) (cI cC cS : ClassId) (h : Nat) (ad : Nat → Nat) (σ α ς β τ q : Int → Int) (p d : Int) (bY : Iv σ) (z_p : -2147483648 ≤ p ∧ p ≤ 2147483647) (z_d : -2147483648 ≤ d ∧ d ≤ 2147483647) : Ki l yX4_bears wsX4_bears rX4_bears D (tz cI cC cS) [.ref h, .int (jj p), .int (jj d)] (mW cI h ad σ α ς β τ q) (beu σ p d) (mW cI h ad σ α ς β τ q) := by
  obtain ⟨bW, bE, bP, bc, bN, bU, b1, b9, b10, bv, bf⟩ := bY
  have hn := bW.1
  have hn2 := bW.2.1
  refine q_entry (cc := cX4_bears) (nL := 4) (ret := (some .int)) (by decide) ⟨_, rfl⟩ (Nat.le_of_ble_eq_true rfl) ?_
  intro A pr en s m args below meth c C hin w ls hl
  have w := w
  have hl : lv_has ls 4 [(0, .ref h), (1, .int (jj p)), (2, .int (jj d))] := hl
  refine q_aload_n C hl dX4_bears_0 rfl 0 rfl ?_
  refine q_iload_n C hl dX4_bears_1 rfl 1 rfl ?_
  refine q_runi C w fr_all (q_V (As := [.int (jj p)]) (rest := []) C w fr_all fX4_isPlace gX4_bears_X4_isPlace rfl ⟨Nat.le_of_ble_eq_true rfl, Nat.le_of_ble_eq_true rfl⟩ (kX4_isPlace l D cI cC cS h ad σ α ς β τ q p ⟨by omega, by omega⟩ (by omega) _) (q0 := 0) rfl rfl rfl rfl hl (Nat.le_of_ble_eq_true rfl) dX4_bears_2 ⟨Nat.le_refl 0, Nat.le_refl 0⟩) (fun H locs w => ?_)
  refine q_ifz_ne (tgt := 10) C dX4_bears_5 (by decide) (fun c1 => ?_) (fun c1 => ?_)
  · have c1 := c1
    refine q_iload_n C hl dX4_bears_10 rfl 2 rfl ?_
    refine q_iconst C dX4_bears_11 ?_
    refine q_bipush C dX4_bears_12 (by decide) ?_
    refine q_runi C w fr_nil (q_S (As := [.int (jj d), .int (jj 1), .int (jj 99)]) (rest := []) C w fr_nil fX4_in gX4_bears_X4_in ⟨Nat.le_of_ble_eq_true rfl, Nat.le_of_ble_eq_true rfl⟩ (kX4_in l D cI cC cS d 1 99 ⟨by omega, by omega⟩ ⟨by omega, by omega⟩ ⟨by omega, by omega⟩ _) rfl rfl hl (Nat.le_of_ble_eq_true rfl) dX4_bears_14 ⟨Nat.le_refl 0, Nat.le_refl 0⟩) (fun H locs w => ?_)
    refine q_ifz_ne (tgt := 23) C dX4_bears_17 (by decide) (fun c2 => ?_) (fun c2 => ?_)
    · have c2 := c2
      have hq := bE p (by omega) (by omega)
      have hq2 := bP p (by omega) (by omega)
      have hq3 := bU p (by omega) (by omega)
      have hb := wtr_b bW p 0 (d := d) (by omega) (by omega)
      refine q_aload_n C hl dX4_bears_23 rfl 0 rfl ?_
      refine q_iload_n C hl dX4_bears_24 rfl 1 rfl ?_
      refine q_iload_n C hl dX4_bears_25 rfl 2 rfl ?_
      refine q_iconst C dX4_bears_26 ?_
      refine q_runi C w fr_all (q_V (As := [.int (jj p), .int (jj d), .int (jj 0)]) (rest := []) C w fr_all fX4_wetter gX4_bears_X4_wetter rfl ⟨Nat.le_of_ble_eq_true rfl, Nat.le_of_ble_eq_true rfl⟩ (kX4_wetter l D cI cC cS h ad σ α ς β τ q p d 0 bW (by omega) (by omega) (by omega) _) (q0 := 0) rfl rfl rfl rfl hl (Nat.le_of_ble_eq_true rfl) dX4_bears_27 ⟨Nat.le_refl 0, Nat.le_refl 0⟩) (fun H locs w => ?_)
      refine q_istore_n (lv' := [(3, .int (jj (wtr σ p d 0))), (0, .ref h), (1, .int (jj p)), (2, .int (jj d))]) C hl dX4_bears_30 rfl (by decide) rfl (fun ls hl => ?_)
      refine q_iload_n C hl dX4_bears_31 rfl 0 rfl ?_
      refine q_if_eq (tgt := 47) C dX4_bears_32 (by decide) ⟨by omega, by omega⟩ (fun c3 => ?_) (fun c3 => ?_)
      · have c3 := c3
        refine q_bipush C dX4_bears_47 (by decide) ?_
        exact q_iret C w dX4_bears_49 (by unfold beu; (repeat' split) <;> omega) rfl
      · have c3 := c3
        refine q_aload_n C hl dX4_bears_35 rfl 1 rfl ?_
        refine q_iload_n C hl dX4_bears_36 rfl 2 rfl ?_
        refine q_iconst C dX4_bears_37 ?_
        refine q_runi C w fr_all (q_V (As := [.int (jj p), .int (jj 2)]) (rest := []) C w fr_all fX4_of gX4_bears_X4_of rfl ⟨Nat.le_of_ble_eq_true rfl, Nat.le_of_ble_eq_true rfl⟩ (kX4_of l D cI cC cS h ad σ α ς β τ q p 2 (by omega) (by omega) _) (q0 := 0) rfl rfl rfl rfl hl (Nat.le_of_ble_eq_true rfl) dX4_bears_38 ⟨Nat.le_refl 0, Nat.le_refl 0⟩) (fun H locs w => ?_)
        refine q_sipush C dX4_bears_41 (by decide) ?_
        refine q_icmp_ne (tgt := 50) C dX4_bears_44 (by decide) ⟨by omega, by omega⟩ ⟨by omega, by omega⟩ (fun c4 => ?_) (fun c4 => ?_)
        · have c4 := c4
          refine q_aload_n C hl dX4_bears_50 rfl 1 rfl ?_
          refine q_iload_n C hl dX4_bears_51 rfl 2 rfl ?_
          refine q_iconst C dX4_bears_52 ?_
          refine q_runi C w fr_all (q_V (As := [.int (jj p), .int (jj 2)]) (rest := []) C w fr_all fX4_of gX4_bears_X4_of rfl ⟨Nat.le_of_ble_eq_true rfl, Nat.le_of_ble_eq_true rfl⟩ (kX4_of l D cI cC cS h ad σ α ς β τ q p 2 (by omega) (by omega) _) (q0 := 0) rfl rfl rfl rfl hl (Nat.le_of_ble_eq_true rfl) dX4_bears_53 ⟨Nat.le_refl 0, Nat.le_refl 0⟩) (fun H locs w => ?_)
          refine q_aload_n C hl dX4_bears_56 rfl 1 rfl ?_
          refine q_iload_n C hl dX4_bears_57 rfl 2 rfl ?_
          refine q_iconst C dX4_bears_58 ?_
          refine q_runi C w fr_all (q_V (As := [.int (jj p), .int (jj 1)]) (rest := [.int (jj (σ (13 + 6 * p + 2)))]) C w fr_all fX4_of gX4_bears_X4_of rfl ⟨Nat.le_of_ble_eq_true rfl, Nat.le_of_ble_eq_true rfl⟩ (kX4_of l D cI cC cS h ad σ α ς β τ q p 1 (by omega) (by omega) _) (q0 := 0) rfl rfl rfl rfl hl (Nat.le_of_ble_eq_true rfl) dX4_bears_59 ⟨Nat.le_refl 0, Nat.le_refl 0⟩) (fun H locs w => ?_)
          refine q_isub C dX4_bears_62 ?_
          refine q_iload_n C hl dX4_bears_63 rfl 0 rfl ?_
          refine q_idiv C dX4_bears_64 ⟨by omega, by omega⟩ ⟨by omega, by omega⟩ ?_
          exact q_iret C w dX4_bears_65 (by unfold beu; (repeat' split) <;> omega) rfl
        · have c4 := c4
          refine q_bipush C dX4_bears_47 (by decide) ?_
          exact q_iret C w dX4_bears_49 (by unfold beu; (repeat' split) <;> omega) rfl
    · have c2 := c2
      refine q_bipush C dX4_bears_20 (by decide) ?_
      exact q_iret C w dX4_bears_22 (by unfold beu; (repeat' split) <;> omega) rfl
  · have c1 := c1
    refine q_iconst C dX4_bears_8 ?_
    exact q_iret C w dX4_bears_9 (by unfold beu; (repeat' split) <;> omega) rfl

def rX4_sumWet : Room := { frames := 2, cells := 0, slots := 0, locals := 43 }
theorem fX4_sumWet : Fc yX4_sumWet wsX4_sumWet rX4_sumWet cX4_sumWet 3 (some .int) 0 := ⟨⟨_, rfl⟩, rfl, rfl, by decide +kernel, by decide +kernel, by decide +kernel⟩
set_option maxHeartbeats 4000000 in
set_option maxRecDepth 10000 in
theorem kX4_sumWet (l : Launch) (D : va_G) (cI cC cS : ClassId) (h : Nat) (ad : Nat → Nat) (σ α ς β τ q : Int → Int)  (bn : 0 ≤ σ 0 ∧ σ 0 ≤ 16) : Ki l yX4_sumWet wsX4_sumWet rX4_sumWet D (tz cI cC cS) [.ref h] (mW cI h ad σ α ς β τ q) (swf σ (σ 0)) (mW cI h ad σ α ς β τ q) := by
  refine q_entry (cc := cX4_sumWet) (nL := 3) (ret := (some .int)) (by decide) ⟨_, rfl⟩ (Nat.le_of_ble_eq_true rfl) ?_
  intro A pr en s m args below meth c C hin w ls hl
  have w := w
  have hl : lv_has ls 3 [(0, .ref h)] := hl
  refine q_iconst C dX4_sumWet_0 ?_
  refine q_istore_n (lv' := [(1, .int (jj 0)), (0, .ref h)]) C hl dX4_sumWet_1 rfl (by decide) rfl (fun ls hl => ?_)
  refine q_iconst C dX4_sumWet_2 ?_
  refine q_istore_n (lv' := [(2, .int (jj 0)), (1, .int (jj 0)), (0, .ref h)]) C hl dX4_sumWet_3 rfl (by decide) rfl (fun ls hl => ?_)
  have loop4 : ∀ (n4 : Nat) (i : Int) (a : Int), (0 ≤ i) → (i ≤ σ 0) → (a = swf σ i) → (σ 0 - i).toNat < n4 → ∀ (H : Heap) (locs : List Loc), Wd D A s (mW cI h ad σ α ς β τ q) H locs → ∀ ls : Array Slot, lv_has ls 3 [(0, .ref h), (1, .int (jj a)), (2, .int (jj i))] → W pr l en rX4_sumWet s m args below meth c H locs 0 0 (MQ below (Qi D (tz cI cC cS) (swf σ (σ 0)) (mW cI h ad σ α ς β τ q) A) args s 0 0 A) (F0 m 4 ls []) := by
    intro n4
    induction n4 with
    | zero => intro i a hi0 hi1 ha hm; exact absurd hm (Nat.not_lt_zero _)
    | succ n4 ih4 =>
      intro i a hi0 hi1 ha hm4 H locs w ls hl
      refine q_iload_n C hl dX4_sumWet_4 rfl 2 rfl ?_
      refine q_aload_n C hl dX4_sumWet_5 rfl 0 rfl ?_
      refine q_getM C w.1 (fun w h => List.mem_cons_of_mem _ (List.mem_append_right _ h)) 0 (by decide) (List.mem_of_getElem? (i := 1) rfl) rfl dX4_sumWet_6 ?_
      refine q_iconst C dX4_sumWet_9 ?_
      refine q_Mld C w.1 ⟨by omega, by omega⟩ dX4_sumWet_10 ?_
      refine q_icmp_ge (tgt := 29) C dX4_sumWet_11 (by decide) ⟨by omega, by omega⟩ ⟨by omega, by omega⟩ (fun c1 => ?_) (fun c1 => ?_)
      · have c1 := c1
        refine q_iload_n C hl dX4_sumWet_29 rfl 1 rfl ?_
        exact q_iret C w dX4_sumWet_30 (by rw [ha, show i = σ 0 by omega]) rfl
      · have c1 := c1
        refine q_iload_n C hl dX4_sumWet_14 rfl 1 rfl ?_
        refine q_aload_n C hl dX4_sumWet_15 rfl 0 rfl ?_
        refine q_iload_n C hl dX4_sumWet_16 rfl 2 rfl ?_
        refine q_iconst C dX4_sumWet_17 ?_
        refine q_runi C w fr_all (q_V (As := [.int (jj i), .int (jj 1)]) (rest := [.int (jj a)]) C w fr_all fX4_of gX4_sumWet_X4_of rfl ⟨Nat.le_of_ble_eq_true rfl, Nat.le_of_ble_eq_true rfl⟩ (kX4_of l D cI cC cS h ad σ α ς β τ q i 1 (by omega) (by omega) _) (q0 := 0) rfl rfl rfl rfl hl (Nat.le_of_ble_eq_true rfl) dX4_sumWet_18 ⟨Nat.le_refl 0, Nat.le_refl 0⟩) (fun H locs w => ?_)
        refine q_iadd C dX4_sumWet_21 ?_
        refine q_istore_n (lv' := [(1, .int (jj (a + (σ (13 + 6 * i + 1))))), (0, .ref h), (2, .int (jj i))]) C hl dX4_sumWet_22 rfl (by decide) rfl (fun ls hl => ?_)
        refine q_iinc (lv' := [(2, .int (jj (i + 1))), (1, .int (jj (a + (σ (13 + 6 * i + 1))))), (0, .ref h)]) C hl dX4_sumWet_23 2 rfl (by decide) rfl (fun ls hl => ?_)
        refine q_goto (tgt := 4) C dX4_sumWet_26 (by decide) ?_
        exact ih4 (i + 1) (a + (σ (13 + 6 * i + 1))) (by omega) (by omega) (by rw [swf_s σ hi0, ← ha]) (by omega) _ _ w ls (lv_sub hl [2, 1, 0] rfl)
  exact loop4 _ 0 0 (by omega) (by omega) rfl (Nat.lt_succ_self _) _ _ w ls (lv_sub hl [2, 1, 0] rfl)

def rX4_wettest : Room := { frames := 2, cells := 0, slots := 0, locals := 43 }
theorem fX4_wettest : Fc yX4_wettest wsX4_wettest rX4_wettest cX4_wettest 3 (some .int) 0 := ⟨⟨_, rfl⟩, rfl, rfl, by decide +kernel, by decide +kernel, by decide +kernel⟩
set_option maxHeartbeats 4000000 in
set_option maxRecDepth 10000 in
theorem kX4_wettest (l : Launch) (D : va_G) (cI cC cS : ClassId) (h : Nat) (ad : Nat → Nat) (σ α ς β τ q : Int → Int)  (bn : 0 ≤ σ 0 ∧ σ 0 ≤ 16) (bE : We σ) : Ki l yX4_wettest wsX4_wettest rX4_wettest D (tz cI cC cS) [.ref h] (mW cI h ad σ α ς β τ q) (wtu σ) (mW cI h ad σ α ς β τ q) := by
  refine q_entry (cc := cX4_wettest) (nL := 3) (ret := (some .int)) (by decide) ⟨_, rfl⟩ (Nat.le_of_ble_eq_true rfl) ?_
  intro A pr en s m args below meth c C hin w ls hl
  have w := w
  have hl : lv_has ls 3 [(0, .ref h)] := hl
  refine q_aload_n C hl dX4_wettest_0 rfl 0 rfl ?_
  refine q_getM C w.1 (fun w h => List.mem_cons_of_mem _ (List.mem_append_right _ h)) 0 (by decide) (List.mem_of_getElem? (i := 1) rfl) rfl dX4_wettest_1 ?_
  refine q_iconst C dX4_wettest_4 ?_
  refine q_Mld C w.1 ⟨by omega, by omega⟩ dX4_wettest_5 ?_
  refine q_if_ne (tgt := 14) C dX4_wettest_6 (by decide) ⟨by omega, by omega⟩ (fun c1 => ?_) (fun c1 => ?_)
  · have c1 := c1
    refine q_iconst C dX4_wettest_14 ?_
    refine q_istore_n (lv' := [(1, .int (jj 0)), (0, .ref h)]) C hl dX4_wettest_15 rfl (by decide) rfl (fun ls hl => ?_)
    refine q_iconst C dX4_wettest_16 ?_
    refine q_istore_n (lv' := [(2, .int (jj 1)), (1, .int (jj 0)), (0, .ref h)]) C hl dX4_wettest_17 rfl (by decide) rfl (fun ls hl => ?_)
    have loop18 : ∀ (n18 : Nat) (i : Int) (f : Int), (1 ≤ i) → ((σ 0 = 0 ∧ f = -5 ∧ i = 1) ∨ (1 ≤ σ 0 ∧ i ≤ σ 0 ∧ f = wtt σ i ∧ 0 ≤ f ∧ f < i)) → (σ 0 - i).toNat < n18 → ∀ (H : Heap) (locs : List Loc), Wd D A s (mW cI h ad σ α ς β τ q) H locs → ∀ ls : Array Slot, lv_has ls 3 [(0, .ref h), (1, .int (jj f)), (2, .int (jj i))] → W pr l en rX4_wettest s m args below meth c H locs 0 0 (MQ below (Qi D (tz cI cC cS) (wtu σ) (mW cI h ad σ α ς β τ q) A) args s 0 0 A) (F0 m 18 ls []) := by
      intro n18
      induction n18 with
      | zero => intro i f hi0 hf hm; exact absurd hm (Nat.not_lt_zero _)
      | succ n18 ih18 =>
        intro i f hi0 hf hm18 H locs w ls hl
        refine q_iload_n C hl dX4_wettest_18 rfl 2 rfl ?_
        refine q_aload_n C hl dX4_wettest_19 rfl 0 rfl ?_
        refine q_getM C w.1 (fun w h => List.mem_cons_of_mem _ (List.mem_append_right _ h)) 0 (by decide) (List.mem_of_getElem? (i := 1) rfl) rfl dX4_wettest_20 ?_
        refine q_iconst C dX4_wettest_23 ?_
        refine q_Mld C w.1 ⟨by omega, by omega⟩ dX4_wettest_24 ?_
        refine q_icmp_ge (tgt := 55) C dX4_wettest_25 (by decide) ⟨by omega, by omega⟩ ⟨by omega, by omega⟩ (fun c2 => ?_) (fun c2 => ?_)
        · have c2 := c2
          refine q_iload_n C hl dX4_wettest_55 rfl 1 rfl ?_
          exact q_iret C w dX4_wettest_56 (Or.elim hf (fun hf => by unfold wtu; rw [if_pos hf.1]; exact hf.2.1) (fun hf => by unfold wtu; rw [if_neg (by omega), show σ 0 = i by omega]; exact hf.2.2.1)) rfl
        · have c2 := c2
          have hf2 : f = wtt σ i := by omega
          have hq := bE i (by omega) (by omega)
          have hq2 := bE f (by omega) (by omega)
          refine q_aload_n C hl dX4_wettest_28 rfl 0 rfl ?_
          refine q_iload_n C hl dX4_wettest_29 rfl 2 rfl ?_
          refine q_iconst C dX4_wettest_30 ?_
          refine q_runi C w fr_all (q_V (As := [.int (jj i), .int (jj 1)]) (rest := []) C w fr_all fX4_of gX4_wettest_X4_of rfl ⟨Nat.le_of_ble_eq_true rfl, Nat.le_of_ble_eq_true rfl⟩ (kX4_of l D cI cC cS h ad σ α ς β τ q i 1 (by omega) (by omega) _) (q0 := 0) rfl rfl rfl rfl hl (Nat.le_of_ble_eq_true rfl) dX4_wettest_31 ⟨Nat.le_refl 0, Nat.le_refl 0⟩) (fun H locs w => ?_)
          refine q_aload_n C hl dX4_wettest_34 rfl 0 rfl ?_
          refine q_iload_n C hl dX4_wettest_35 rfl 1 rfl ?_
          refine q_iconst C dX4_wettest_36 ?_
          refine q_runi C w fr_all (q_V (As := [.int (jj f), .int (jj 1)]) (rest := [.int (jj (σ (13 + 6 * i + 1)))]) C w fr_all fX4_of gX4_wettest_X4_of rfl ⟨Nat.le_of_ble_eq_true rfl, Nat.le_of_ble_eq_true rfl⟩ (kX4_of l D cI cC cS h ad σ α ς β τ q f 1 (by omega) (by omega) _) (q0 := 0) rfl rfl rfl rfl hl (Nat.le_of_ble_eq_true rfl) dX4_wettest_37 ⟨Nat.le_refl 0, Nat.le_refl 0⟩) (fun H locs w => ?_)
          refine q_icmp_le (tgt := 47) C dX4_wettest_40 (by decide) ⟨by omega, by omega⟩ ⟨by omega, by omega⟩ (fun c3 => ?_) (fun c3 => ?_)
          · have c3 := c3
            refine q_iload_n C hl dX4_wettest_47 rfl 1 rfl ?_
            refine q_istore_n (lv' := [(1, .int (jj f)), (0, .ref h), (2, .int (jj i))]) C hl dX4_wettest_48 rfl (by decide) rfl (fun ls hl => ?_)
            refine q_iinc (lv' := [(2, .int (jj (i + 1))), (1, .int (jj f)), (0, .ref h)]) C hl dX4_wettest_49 2 rfl (by decide) rfl (fun ls hl => ?_)
            refine q_goto (tgt := 18) C dX4_wettest_52 (by decide) ?_
            exact ih18 (i + 1) f (by omega) (by have ts := wtt_s σ (i := i) (by omega); rw [← hf2] at ts; (repeat' split at ts) <;> omega) (by omega) _ _ w ls (lv_sub hl [2, 1, 0] rfl)
          · have c3 := c3
            refine q_iload_n C hl dX4_wettest_43 rfl 2 rfl ?_
            refine q_goto (tgt := 48) C dX4_wettest_44 (by decide) ?_
            refine q_istore_n (lv' := [(1, .int (jj i)), (0, .ref h), (2, .int (jj i))]) C hl dX4_wettest_48 rfl (by decide) rfl (fun ls hl => ?_)
            refine q_iinc (lv' := [(2, .int (jj (i + 1))), (1, .int (jj i)), (0, .ref h)]) C hl dX4_wettest_49 2 rfl (by decide) rfl (fun ls hl => ?_)
            refine q_goto (tgt := 18) C dX4_wettest_52 (by decide) ?_
            exact ih18 (i + 1) i (by omega) (by have ts := wtt_s σ (i := i) (by omega); rw [← hf2] at ts; (repeat' split at ts) <;> omega) (by omega) _ _ w ls (lv_sub hl [2, 1, 0] rfl)
    exact loop18 _ 1 0 (by omega) (by have := wtt_1 σ; omega) (Nat.lt_succ_self _) _ _ w ls (lv_sub hl [2, 1, 0] rfl)
  · have c1 := c1
    refine q_bipush C dX4_wettest_9 (by decide) ?_
    refine q_goto (tgt := 15) C dX4_wettest_11 (by decide) ?_
    refine q_istore_n (lv' := [(1, .int (jj (-5))), (0, .ref h)]) C hl dX4_wettest_15 rfl (by decide) rfl (fun ls hl => ?_)
    refine q_iconst C dX4_wettest_16 ?_
    refine q_istore_n (lv' := [(2, .int (jj 1)), (1, .int (jj (-5))), (0, .ref h)]) C hl dX4_wettest_17 rfl (by decide) rfl (fun ls hl => ?_)
    have loop18 : ∀ (n18 : Nat) (i : Int) (f : Int), (1 ≤ i) → ((σ 0 = 0 ∧ f = -5 ∧ i = 1) ∨ (1 ≤ σ 0 ∧ i ≤ σ 0 ∧ f = wtt σ i ∧ 0 ≤ f ∧ f < i)) → (σ 0 - i).toNat < n18 → ∀ (H : Heap) (locs : List Loc), Wd D A s (mW cI h ad σ α ς β τ q) H locs → ∀ ls : Array Slot, lv_has ls 3 [(0, .ref h), (1, .int (jj f)), (2, .int (jj i))] → W pr l en rX4_wettest s m args below meth c H locs 0 0 (MQ below (Qi D (tz cI cC cS) (wtu σ) (mW cI h ad σ α ς β τ q) A) args s 0 0 A) (F0 m 18 ls []) := by
      intro n18
      induction n18 with
      | zero => intro i f hi0 hf hm; exact absurd hm (Nat.not_lt_zero _)
      | succ n18 ih18 =>
        intro i f hi0 hf hm18 H locs w ls hl
        refine q_iload_n C hl dX4_wettest_18 rfl 2 rfl ?_
        refine q_aload_n C hl dX4_wettest_19 rfl 0 rfl ?_
        refine q_getM C w.1 (fun w h => List.mem_cons_of_mem _ (List.mem_append_right _ h)) 0 (by decide) (List.mem_of_getElem? (i := 1) rfl) rfl dX4_wettest_20 ?_
        refine q_iconst C dX4_wettest_23 ?_
        refine q_Mld C w.1 ⟨by omega, by omega⟩ dX4_wettest_24 ?_
        refine q_icmp_ge (tgt := 55) C dX4_wettest_25 (by decide) ⟨by omega, by omega⟩ ⟨by omega, by omega⟩ (fun c4 => ?_) (fun c4 => ?_)
        · have c4 := c4
          refine q_iload_n C hl dX4_wettest_55 rfl 1 rfl ?_
          exact q_iret C w dX4_wettest_56 (Or.elim hf (fun hf => by unfold wtu; rw [if_pos hf.1]; exact hf.2.1) (fun hf => by unfold wtu; rw [if_neg (by omega), show σ 0 = i by omega]; exact hf.2.2.1)) rfl
        · have c4 := c4
          have hf2 : f = wtt σ i := by omega
          have hq := bE i (by omega) (by omega)
          have hq2 := bE f (by omega) (by omega)
          refine q_aload_n C hl dX4_wettest_28 rfl 0 rfl ?_
          refine q_iload_n C hl dX4_wettest_29 rfl 2 rfl ?_
          refine q_iconst C dX4_wettest_30 ?_
          refine q_runi C w fr_all (q_V (As := [.int (jj i), .int (jj 1)]) (rest := []) C w fr_all fX4_of gX4_wettest_X4_of rfl ⟨Nat.le_of_ble_eq_true rfl, Nat.le_of_ble_eq_true rfl⟩ (kX4_of l D cI cC cS h ad σ α ς β τ q i 1 (by omega) (by omega) _) (q0 := 0) rfl rfl rfl rfl hl (Nat.le_of_ble_eq_true rfl) dX4_wettest_31 ⟨Nat.le_refl 0, Nat.le_refl 0⟩) (fun H locs w => ?_)
          refine q_aload_n C hl dX4_wettest_34 rfl 0 rfl ?_
          refine q_iload_n C hl dX4_wettest_35 rfl 1 rfl ?_
          refine q_iconst C dX4_wettest_36 ?_
          refine q_runi C w fr_all (q_V (As := [.int (jj f), .int (jj 1)]) (rest := [.int (jj (σ (13 + 6 * i + 1)))]) C w fr_all fX4_of gX4_wettest_X4_of rfl ⟨Nat.le_of_ble_eq_true rfl, Nat.le_of_ble_eq_true rfl⟩ (kX4_of l D cI cC cS h ad σ α ς β τ q f 1 (by omega) (by omega) _) (q0 := 0) rfl rfl rfl rfl hl (Nat.le_of_ble_eq_true rfl) dX4_wettest_37 ⟨Nat.le_refl 0, Nat.le_refl 0⟩) (fun H locs w => ?_)
          refine q_icmp_le (tgt := 47) C dX4_wettest_40 (by decide) ⟨by omega, by omega⟩ ⟨by omega, by omega⟩ (fun c5 => ?_) (fun c5 => ?_)
          · have c5 := c5
            refine q_iload_n C hl dX4_wettest_47 rfl 1 rfl ?_
            refine q_istore_n (lv' := [(1, .int (jj f)), (0, .ref h), (2, .int (jj i))]) C hl dX4_wettest_48 rfl (by decide) rfl (fun ls hl => ?_)
            refine q_iinc (lv' := [(2, .int (jj (i + 1))), (1, .int (jj f)), (0, .ref h)]) C hl dX4_wettest_49 2 rfl (by decide) rfl (fun ls hl => ?_)
            refine q_goto (tgt := 18) C dX4_wettest_52 (by decide) ?_
            exact ih18 (i + 1) f (by omega) (by have ts := wtt_s σ (i := i) (by omega); rw [← hf2] at ts; (repeat' split at ts) <;> omega) (by omega) _ _ w ls (lv_sub hl [2, 1, 0] rfl)
          · have c5 := c5
            refine q_iload_n C hl dX4_wettest_43 rfl 2 rfl ?_
            refine q_goto (tgt := 48) C dX4_wettest_44 (by decide) ?_
            refine q_istore_n (lv' := [(1, .int (jj i)), (0, .ref h), (2, .int (jj i))]) C hl dX4_wettest_48 rfl (by decide) rfl (fun ls hl => ?_)
            refine q_iinc (lv' := [(2, .int (jj (i + 1))), (1, .int (jj i)), (0, .ref h)]) C hl dX4_wettest_49 2 rfl (by decide) rfl (fun ls hl => ?_)
            refine q_goto (tgt := 18) C dX4_wettest_52 (by decide) ?_
            exact ih18 (i + 1) i (by omega) (by have ts := wtt_s σ (i := i) (by omega); rw [← hf2] at ts; (repeat' split at ts) <;> omega) (by omega) _ _ w ls (lv_sub hl [2, 1, 0] rfl)
    exact loop18 _ 1 (-5) (by omega) (by have := wtt_1 σ; omega) (Nat.lt_succ_self _) _ _ w ls (lv_sub hl [2, 1, 0] rfl)

def rX4_unreached : Room := { frames := 4, cells := 0, slots := 0, locals := 88 }
theorem fX4_unreached : Fc yX4_unreached wsX4_unreached rX4_unreached cX4_unreached 3 (some .int) 0 := ⟨⟨_, rfl⟩, rfl, rfl, by decide +kernel, by decide +kernel, by decide +kernel⟩
set_option maxHeartbeats 4000000 in
set_option maxRecDepth 10000 in
theorem kX4_unreached (l : Launch) (D : va_G) (cI cC cS : ClassId) (h : Nat) (ad : Nat → Nat) (σ α ς β τ q : Int → Int)  (bW : Wi σ) : Ki l yX4_unreached wsX4_unreached rX4_unreached D (tz cI cC cS) [.ref h] (mW cI h ad σ α ς β τ q) (unf σ (σ 0)) (mW cI h ad σ α ς β τ q) := by
  have hn := bW.1
  have hn2 := bW.2.1
  refine q_entry (cc := cX4_unreached) (nL := 3) (ret := (some .int)) (by decide) ⟨_, rfl⟩ (Nat.le_of_ble_eq_true rfl) ?_
  intro A pr en s m args below meth c C hin w ls hl
  have w := w
  have hl : lv_has ls 3 [(0, .ref h)] := hl
  refine q_iconst C dX4_unreached_0 ?_
  refine q_istore_n (lv' := [(1, .int (jj 0)), (0, .ref h)]) C hl dX4_unreached_1 rfl (by decide) rfl (fun ls hl => ?_)
  refine q_iconst C dX4_unreached_2 ?_
  refine q_istore_n (lv' := [(2, .int (jj 0)), (1, .int (jj 0)), (0, .ref h)]) C hl dX4_unreached_3 rfl (by decide) rfl (fun ls hl => ?_)
  have loop4 : ∀ (n4 : Nat) (i : Int) (a : Int), (0 ≤ i) → (i ≤ σ 0) → (a = unf σ i) → (σ 0 - i).toNat < n4 → ∀ (H : Heap) (locs : List Loc), Wd D A s (mW cI h ad σ α ς β τ q) H locs → ∀ ls : Array Slot, lv_has ls 3 [(0, .ref h), (1, .int (jj a)), (2, .int (jj i))] → W pr l en rX4_unreached s m args below meth c H locs 0 0 (MQ below (Qi D (tz cI cC cS) (unf σ (σ 0)) (mW cI h ad σ α ς β τ q) A) args s 0 0 A) (F0 m 4 ls []) := by
    intro n4
    induction n4 with
    | zero => intro i a hi0 hi1 ha hm; exact absurd hm (Nat.not_lt_zero _)
    | succ n4 ih4 =>
      intro i a hi0 hi1 ha hm4 H locs w ls hl
      refine q_iload_n C hl dX4_unreached_4 rfl 2 rfl ?_
      refine q_aload_n C hl dX4_unreached_5 rfl 0 rfl ?_
      refine q_getM C w.1 (fun w h => List.mem_cons_of_mem _ (List.mem_append_right _ h)) 0 (by decide) (List.mem_of_getElem? (i := 1) rfl) rfl dX4_unreached_6 ?_
      refine q_iconst C dX4_unreached_9 ?_
      refine q_Mld C w.1 ⟨by omega, by omega⟩ dX4_unreached_10 ?_
      refine q_icmp_ge (tgt := 36) C dX4_unreached_11 (by decide) ⟨by omega, by omega⟩ ⟨by omega, by omega⟩ (fun c1 => ?_) (fun c1 => ?_)
      · have c1 := c1
        refine q_iload_n C hl dX4_unreached_36 rfl 1 rfl ?_
        exact q_iret C w dX4_unreached_37 (by rw [ha, show i = σ 0 by omega]) rfl
      · have c1 := c1
        have hr := rch_b σ i hn
        refine q_iload_n C hl dX4_unreached_14 rfl 1 rfl ?_
        refine q_aload_n C hl dX4_unreached_15 rfl 0 rfl ?_
        refine q_iload_n C hl dX4_unreached_16 rfl 2 rfl ?_
        refine q_runi C w fr_all (q_V (As := [.int (jj i)]) (rest := [.int (jj a)]) C w fr_all fX4_reaching gX4_unreached_X4_reaching rfl ⟨Nat.le_of_ble_eq_true rfl, Nat.le_of_ble_eq_true rfl⟩ (kX4_reaching l D cI cC cS h ad σ α ς β τ q i bW (by omega) _) (q0 := 0) rfl rfl rfl rfl hl (Nat.le_of_ble_eq_true rfl) dX4_unreached_17 ⟨Nat.le_refl 0, Nat.le_refl 0⟩) (fun H locs w => ?_)
        refine q_if_ne (tgt := 27) C dX4_unreached_20 (by decide) ⟨by omega, by omega⟩ (fun c2 => ?_) (fun c2 => ?_)
        · have c2 := c2
          refine q_iconst C dX4_unreached_27 ?_
          refine q_iadd C dX4_unreached_28 ?_
          refine q_istore_n (lv' := [(1, .int (jj (a + 0))), (0, .ref h), (2, .int (jj i))]) C hl dX4_unreached_29 rfl (by decide) rfl (fun ls hl => ?_)
          refine q_iinc (lv' := [(2, .int (jj (i + 1))), (1, .int (jj (a + 0))), (0, .ref h)]) C hl dX4_unreached_30 2 rfl (by decide) rfl (fun ls hl => ?_)
          refine q_goto (tgt := 4) C dX4_unreached_33 (by decide) ?_
          exact ih4 (i + 1) (a + 0) (by omega) (by omega) (by rw [unf_s σ hi0, ← ha]; unfold bI; split <;> omega) (by omega) _ _ w ls (lv_sub hl [2, 1, 0] rfl)
        · have c2 := c2
          refine q_iconst C dX4_unreached_23 ?_
          refine q_goto (tgt := 28) C dX4_unreached_24 (by decide) ?_
          refine q_iadd C dX4_unreached_28 ?_
          refine q_istore_n (lv' := [(1, .int (jj (a + 1))), (0, .ref h), (2, .int (jj i))]) C hl dX4_unreached_29 rfl (by decide) rfl (fun ls hl => ?_)
          refine q_iinc (lv' := [(2, .int (jj (i + 1))), (1, .int (jj (a + 1))), (0, .ref h)]) C hl dX4_unreached_30 2 rfl (by decide) rfl (fun ls hl => ?_)
          refine q_goto (tgt := 4) C dX4_unreached_33 (by decide) ?_
          exact ih4 (i + 1) (a + 1) (by omega) (by omega) (by rw [unf_s σ hi0, ← ha]; unfold bI; split <;> omega) (by omega) _ _ w ls (lv_sub hl [2, 1, 0] rfl)
  exact loop4 _ 0 0 (by omega) (by omega) rfl (Nat.lt_succ_self _) _ _ w ls (lv_sub hl [2, 1, 0] rfl)

def rX4_count : Room := { frames := 5, cells := 0, slots := 0, locals := 110 }
theorem fX4_count : Fc yX4_count wsX4_count rX4_count cX4_count 2 (some .int) 1 := ⟨⟨_, rfl⟩, rfl, rfl, by decide +kernel, by decide +kernel, by decide +kernel⟩
set_option maxHeartbeats 4000000 in
set_option maxRecDepth 10000 in
theorem kX4_count (l : Launch) (D : va_G) (cI cC cS : ClassId) (h : Nat) (ad : Nat → Nat) (σ α ς β τ q : Int → Int) (wh : Int) (bY : Iv σ) (z_wh : -2147483648 ≤ wh ∧ wh ≤ 2147483647) : Ki l yX4_count wsX4_count rX4_count D (tz cI cC cS) [.ref h, .int (jj wh)] (mW cI h ad σ α ς β τ q) (cnu σ (q 5) (q 7) wh) (mW cI h ad σ α ς β τ q) := by
  obtain ⟨bW, bE, bP, bc, bN, bU, b1, b9, b10, bv, bf⟩ := bY
  have hn := bW.1
  have hn2 := bW.2.1
  refine q_entry (cc := cX4_count) (nL := 2) (ret := (some .int)) (by decide) ⟨_, rfl⟩ (Nat.le_of_ble_eq_true rfl) ?_
  intro A pr en s m args below meth c C hin w ls hl
  have w := w
  have hl : lv_has ls 2 [(0, .ref h), (1, .int (jj wh))] := hl
  refine q_iload_n C hl dX4_count_0 rfl 1 rfl ?_
  refine q_iconst C dX4_count_1 ?_
  refine q_bipush C dX4_count_2 (by decide) ?_
  refine q_runi C w fr_nil (q_S (As := [.int (jj wh), .int (jj 0), .int (jj 9)]) (rest := []) C w fr_nil fX4_in gX4_count_X4_in ⟨Nat.le_of_ble_eq_true rfl, Nat.le_of_ble_eq_true rfl⟩ (kX4_in l D cI cC cS wh 0 9 ⟨by omega, by omega⟩ ⟨by omega, by omega⟩ ⟨by omega, by omega⟩ _) rfl rfl hl (Nat.le_of_ble_eq_true rfl) dX4_count_4 ⟨Nat.le_refl 0, Nat.le_refl 0⟩) (fun H locs w => ?_)
  refine q_ifz_eq (tgt := 17) C dX4_count_7 (by decide) (fun c1 => ?_) (fun c1 => ?_)
  · have c1 := c1
    refine q_iload_n C hl dX4_count_17 rfl 1 rfl ?_
    by_cases c2 : wh = 10
    · refine q_tabIn (v := 10) (tgt := 64) C dX4_count_18 c2 ⟨by omega, by omega⟩ (by decide) (by decide) rfl (by decide) ?_
      refine q_aload_n C hl dX4_count_64 rfl 0 rfl ?_
      refine q_runi C w fr_all (q_V (As := []) (rest := []) C w fr_all fX4_sumWet gX4_count_X4_sumWet rfl ⟨Nat.le_of_ble_eq_true rfl, Nat.le_of_ble_eq_true rfl⟩ (kX4_sumWet l D cI cC cS h ad σ α ς β τ q  (by omega) _) (q0 := 0) rfl rfl rfl rfl hl (Nat.le_of_ble_eq_true rfl) dX4_count_65 ⟨Nat.le_refl 0, Nat.le_refl 0⟩) (fun H locs w => ?_)
      exact q_iret C w dX4_count_68 (by unfold cnu; (repeat' split) <;> omega) rfl
    by_cases c3 : wh = 11
    · refine q_tabIn (v := 11) (tgt := 69) C dX4_count_18 c3 ⟨by omega, by omega⟩ (by decide) (by decide) rfl (by decide) ?_
      refine q_aload_n C hl dX4_count_69 rfl 0 rfl ?_
      refine q_runi C w fr_all (q_V (As := []) (rest := []) C w fr_all fX4_wettest gX4_count_X4_wettest rfl ⟨Nat.le_of_ble_eq_true rfl, Nat.le_of_ble_eq_true rfl⟩ (kX4_wettest l D cI cC cS h ad σ α ς β τ q  (by omega) bE _) (q0 := 0) rfl rfl rfl rfl hl (Nat.le_of_ble_eq_true rfl) dX4_count_70 ⟨Nat.le_refl 0, Nat.le_refl 0⟩) (fun H locs w => ?_)
      exact q_iret C w dX4_count_73 (by unfold cnu; (repeat' split) <;> omega) rfl
    by_cases c4 : wh = 12
    · refine q_tabIn (v := 12) (tgt := 74) C dX4_count_18 c4 ⟨by omega, by omega⟩ (by decide) (by decide) rfl (by decide) ?_
      refine q_aload_n C hl dX4_count_74 rfl 0 rfl ?_
      refine q_runi C w fr_all (q_V (As := []) (rest := []) C w fr_all fX4_unreached gX4_count_X4_unreached rfl ⟨Nat.le_of_ble_eq_true rfl, Nat.le_of_ble_eq_true rfl⟩ (kX4_unreached l D cI cC cS h ad σ α ς β τ q  bW _) (q0 := 0) rfl rfl rfl rfl hl (Nat.le_of_ble_eq_true rfl) dX4_count_75 ⟨Nat.le_refl 0, Nat.le_refl 0⟩) (fun H locs w => ?_)
      exact q_iret C w dX4_count_78 (by unfold cnu; (repeat' split) <;> omega) rfl
    by_cases c5 : wh = 13
    · refine q_tabIn (v := 13) (tgt := 79) C dX4_count_18 c5 ⟨by omega, by omega⟩ (by decide) (by decide) rfl (by decide) ?_
      refine q_aload_n C hl dX4_count_79 rfl 0 rfl ?_
      refine q_getM C w.1 (fun w h => List.mem_cons_of_mem _ (List.mem_append_right _ h)) 0 (by decide) (List.mem_of_getElem? (i := 1) rfl) rfl dX4_count_80 ?_
      refine q_bipush C dX4_count_83 (by decide) ?_
      refine q_iload_n C hl dX4_count_85 rfl 1 rfl ?_
      refine q_iadd C dX4_count_86 ?_
      refine q_bipush C dX4_count_87 (by decide) ?_
      refine q_isub C dX4_count_89 ?_
      refine q_Mld C w.1 ⟨by omega, by omega⟩ dX4_count_90 ?_
      exact q_iret C w dX4_count_91 (by have ee : (10:Int) + wh - 13 = wh - 3 := (by omega); rw [ee]; unfold cnu; (repeat' split) <;> omega) rfl
    by_cases c6 : wh = 14
    · refine q_tabIn (v := 14) (tgt := 79) C dX4_count_18 c6 ⟨by omega, by omega⟩ (by decide) (by decide) rfl (by decide) ?_
      refine q_aload_n C hl dX4_count_79 rfl 0 rfl ?_
      refine q_getM C w.1 (fun w h => List.mem_cons_of_mem _ (List.mem_append_right _ h)) 0 (by decide) (List.mem_of_getElem? (i := 1) rfl) rfl dX4_count_80 ?_
      refine q_bipush C dX4_count_83 (by decide) ?_
      refine q_iload_n C hl dX4_count_85 rfl 1 rfl ?_
      refine q_iadd C dX4_count_86 ?_
      refine q_bipush C dX4_count_87 (by decide) ?_
      refine q_isub C dX4_count_89 ?_
      refine q_Mld C w.1 ⟨by omega, by omega⟩ dX4_count_90 ?_
      exact q_iret C w dX4_count_91 (by have ee : (10:Int) + wh - 13 = wh - 3 := (by omega); rw [ee]; unfold cnu; (repeat' split) <;> omega) rfl
    by_cases c7 : wh = 15
    · refine q_tabIn (v := 15) (tgt := 79) C dX4_count_18 c7 ⟨by omega, by omega⟩ (by decide) (by decide) rfl (by decide) ?_
      refine q_aload_n C hl dX4_count_79 rfl 0 rfl ?_
      refine q_getM C w.1 (fun w h => List.mem_cons_of_mem _ (List.mem_append_right _ h)) 0 (by decide) (List.mem_of_getElem? (i := 1) rfl) rfl dX4_count_80 ?_
      refine q_bipush C dX4_count_83 (by decide) ?_
      refine q_iload_n C hl dX4_count_85 rfl 1 rfl ?_
      refine q_iadd C dX4_count_86 ?_
      refine q_bipush C dX4_count_87 (by decide) ?_
      refine q_isub C dX4_count_89 ?_
      refine q_Mld C w.1 ⟨by omega, by omega⟩ dX4_count_90 ?_
      exact q_iret C w dX4_count_91 (by have ee : (10:Int) + wh - 13 = wh - 3 := (by omega); rw [ee]; unfold cnu; (repeat' split) <;> omega) rfl
    by_cases c8 : wh = 16
    · refine q_tabIn (v := 16) (tgt := 92) C dX4_count_18 c8 ⟨by omega, by omega⟩ (by decide) (by decide) rfl (by decide) ?_
      refine q_aload_n C hl dX4_count_92 rfl 0 rfl ?_
      refine q_getM C w.1 (fun w h => List.mem_cons_of_mem _ (List.mem_append_right _ h)) 5 (by decide) (List.mem_of_getElem? (i := 2) rfl) rfl dX4_count_93 ?_
      exact q_iret C w dX4_count_96 (by unfold cnu; (repeat' split) <;> omega) rfl
    by_cases c9 : wh = 17
    · refine q_tabIn (v := 17) (tgt := 97) C dX4_count_18 c9 ⟨by omega, by omega⟩ (by decide) (by decide) rfl (by decide) ?_
      refine q_aload_n C hl dX4_count_97 rfl 0 rfl ?_
      refine q_getM C w.1 (fun w h => List.mem_cons_of_mem _ (List.mem_append_right _ h)) 7 (by decide) (List.mem_of_getElem? (i := 3) rfl) rfl dX4_count_98 ?_
      exact q_iret C w dX4_count_101 (by unfold cnu; (repeat' split) <;> omega) rfl
    refine q_tabOut (tgt := 102) C dX4_count_18 ⟨by omega, by omega⟩ (by omega) (by decide) ?_
    refine q_bipush C dX4_count_102 (by decide) ?_
    exact q_iret C w dX4_count_104 (by unfold cnu; (repeat' split) <;> omega) rfl
  · have c1 := c1
    refine q_aload_n C hl dX4_count_10 rfl 0 rfl ?_
    refine q_getM C w.1 (fun w h => List.mem_cons_of_mem _ (List.mem_append_right _ h)) 0 (by decide) (List.mem_of_getElem? (i := 1) rfl) rfl dX4_count_11 ?_
    refine q_iload_n C hl dX4_count_14 rfl 1 rfl ?_
    refine q_Mld C w.1 ⟨by omega, by omega⟩ dX4_count_15 ?_
    exact q_iret C w dX4_count_16 (by unfold cnu; (repeat' split) <;> omega) rfl
