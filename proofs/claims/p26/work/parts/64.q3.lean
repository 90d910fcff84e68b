def rX3_person : Room := { frames := 3, cells := 0, slots := 0, locals := 65 }
theorem fX3_person : Fc yX3_person wsX3_person rX3_person cX3_person 3 (some .int) 2 := ⟨⟨_, rfl⟩, rfl, rfl, by decide +kernel, by decide +kernel, by decide +kernel⟩
set_option maxHeartbeats 4000000 in
set_option maxRecDepth 10000 in
theorem kX3_person (l : Launch) (D : va_G) (cI cC cS : ClassId) (h hn : Nat) (adn : Nat → Nat) (hsn : Nat) (ads : Nat → Nat) (hh har hw : Nat) (adw : Nat → Nat) (σ ς : Int → Int) (hs : Nat → Nat) (ha : Nat → Nat → Nat) (η : Nat → Int → Int) (dp : Int) (τ kd am sd q u : Int → Int) (p wh : Int) (bY : Iv σ) (z_p : -2147483648 ≤ p ∧ p ≤ 2147483647) (z_wh : -2147483648 ≤ wh ∧ wh ≤ 2147483647) : Ki l yX3_person wsX3_person rX3_person D (tz cI cC cS) [.ref h, .int (jj p), .int (jj wh)] (uW cI cC cS h hn adn hsn ads hh har hw adw σ ς hs ha η dp τ kd am sd q u) (psu σ p wh) (uW cI cC cS h hn adn hsn ads hh har hw adw σ ς hs ha η dp τ kd am sd q u) := by
  obtain ⟨bW, bE, bP, bc, bN, bU, b1, b9, b10, bv, bf⟩ := bY
  have hn_ := bW.1
  have hn2 := bW.2.1
  refine q_entry (cc := cX3_person) (nL := 3) (ret := (some .int)) (by decide) ⟨_, rfl⟩ (Nat.le_of_ble_eq_true rfl) ?_
  intro A pr en s m args below meth c C hin w ls hl
  have w := w
  have hl : lv_has ls 3 [(0, .ref h), (1, .int (jj p)), (2, .int (jj wh))] := hl
  refine q_aload_n C hl dX3_person_0 rfl 0 rfl ?_
  refine q_getU C w.1 (fun w h => List.mem_cons_of_mem _ (List.mem_append_left _ (List.mem_append_right _ h))) 0 (by decide) (List.mem_of_getElem? (i := 1) rfl) rfl dX3_person_1 ?_
  refine q_iload_n C hl dX3_person_4 rfl 1 rfl ?_
  refine q_runi C w fu_n (q_V (As := [.int (jj p)]) (rest := []) C w fu_n fX1_isPlace gX3_person_X1_isPlace rfl ⟨Nat.le_of_ble_eq_true rfl, Nat.le_of_ble_eq_true rfl⟩ (kX1_isPlace l D cI cC cS hn adn σ p ⟨by omega, by omega⟩ (by omega) _) (q0 := 0) rfl rfl rfl rfl hl (Nat.le_of_ble_eq_true rfl) dX3_person_5 ⟨Nat.le_refl 0, Nat.le_refl 0⟩) (fun H locs w => ?_)
  refine q_ifz_ne (tgt := 13) C dX3_person_8 (by decide) (fun c1 => ?_) (fun c1 => ?_)
  · have c1 := c1
    have hq := bW.2.2 p (by omega) (by omega)
    refine q_iload_n C hl dX3_person_13 rfl 2 rfl ?_
    by_cases c2 : wh = 0
    · refine q_tabIn (v := 0) (tgt := 64) C dX3_person_14 c2 ⟨by omega, by omega⟩ (by decide) (by decide) rfl (by decide) ?_
      refine q_aload_n C hl dX3_person_64 rfl 0 rfl ?_
      refine q_getU C w.1 (fun w h => List.mem_cons_of_mem _ (List.mem_append_left _ (List.mem_append_right _ h))) 0 (by decide) (List.mem_of_getElem? (i := 1) rfl) rfl dX3_person_65 ?_
      refine q_getS C (vU_n w.1) (fun w h => List.mem_cons_of_mem _ (List.mem_append_right _ h)) 0 (by decide) (List.mem_of_getElem? (i := 2) rfl) rfl dX3_person_68 ?_
      refine q_iload_n C hl dX3_person_71 rfl 1 rfl ?_
      refine q_Sld C (vU_n w.1) 1 0 rfl ⟨by omega, by omega⟩ dX3_person_72 ?_
      exact q_iret C w dX3_person_73 (by unfold psu; rw [if_pos (by omega), if_neg (by omega), if_neg (by omega), if_neg (by omega), if_neg (by omega), if_pos (by omega)]; exact congrArg σ (by omega)) rfl
    by_cases c3 : wh = 1
    · refine q_tabIn (v := 1) (tgt := 74) C dX3_person_14 c3 ⟨by omega, by omega⟩ (by decide) (by decide) rfl (by decide) ?_
      refine q_aload_n C hl dX3_person_74 rfl 0 rfl ?_
      refine q_getU C w.1 (fun w h => List.mem_cons_of_mem _ (List.mem_append_left _ (List.mem_append_right _ h))) 0 (by decide) (List.mem_of_getElem? (i := 1) rfl) rfl dX3_person_75 ?_
      refine q_getS C (vU_n w.1) (fun w h => List.mem_cons_of_mem _ (List.mem_append_right _ h)) 1 (by decide) (List.mem_of_getElem? (i := 3) rfl) rfl dX3_person_78 ?_
      refine q_iload_n C hl dX3_person_81 rfl 1 rfl ?_
      refine q_Sld C (vU_n w.1) 2 1 rfl ⟨by omega, by omega⟩ dX3_person_82 ?_
      exact q_iret C w dX3_person_83 (by unfold psu; rw [if_pos (by omega), if_neg (by omega), if_neg (by omega), if_neg (by omega), if_neg (by omega), if_pos (by omega)]; exact congrArg σ (by omega)) rfl
    by_cases c4 : wh = 2
    · refine q_tabIn (v := 2) (tgt := 84) C dX3_person_14 c4 ⟨by omega, by omega⟩ (by decide) (by decide) rfl (by decide) ?_
      refine q_aload_n C hl dX3_person_84 rfl 0 rfl ?_
      refine q_getU C w.1 (fun w h => List.mem_cons_of_mem _ (List.mem_append_left _ (List.mem_append_right _ h))) 0 (by decide) (List.mem_of_getElem? (i := 1) rfl) rfl dX3_person_85 ?_
      refine q_getS C (vU_n w.1) (fun w h => List.mem_cons_of_mem _ (List.mem_append_right _ h)) 2 (by decide) (List.mem_of_getElem? (i := 4) rfl) rfl dX3_person_88 ?_
      refine q_iload_n C hl dX3_person_91 rfl 1 rfl ?_
      refine q_Sld C (vU_n w.1) 3 2 rfl ⟨by omega, by omega⟩ dX3_person_92 ?_
      exact q_iret C w dX3_person_93 (by unfold psu; rw [if_pos (by omega), if_neg (by omega), if_neg (by omega), if_neg (by omega), if_neg (by omega), if_pos (by omega)]; exact congrArg σ (by omega)) rfl
    by_cases c5 : wh = 3
    · refine q_tabIn (v := 3) (tgt := 94) C dX3_person_14 c5 ⟨by omega, by omega⟩ (by decide) (by decide) rfl (by decide) ?_
      refine q_aload_n C hl dX3_person_94 rfl 0 rfl ?_
      refine q_getU C w.1 (fun w h => List.mem_cons_of_mem _ (List.mem_append_left _ (List.mem_append_right _ h))) 0 (by decide) (List.mem_of_getElem? (i := 1) rfl) rfl dX3_person_95 ?_
      refine q_getS C (vU_n w.1) (fun w h => List.mem_cons_of_mem _ (List.mem_append_right _ h)) 3 (by decide) (List.mem_of_getElem? (i := 5) rfl) rfl dX3_person_98 ?_
      refine q_iload_n C hl dX3_person_101 rfl 1 rfl ?_
      refine q_Sld C (vU_n w.1) 4 3 rfl ⟨by omega, by omega⟩ dX3_person_102 ?_
      exact q_iret C w dX3_person_103 (by unfold psu; rw [if_pos (by omega), if_neg (by omega), if_neg (by omega), if_neg (by omega), if_neg (by omega), if_pos (by omega)]; exact congrArg σ (by omega)) rfl
    by_cases c6 : wh = 4
    · refine q_tabIn (v := 4) (tgt := 104) C dX3_person_14 c6 ⟨by omega, by omega⟩ (by decide) (by decide) rfl (by decide) ?_
      refine q_aload_n C hl dX3_person_104 rfl 0 rfl ?_
      refine q_getU C w.1 (fun w h => List.mem_cons_of_mem _ (List.mem_append_left _ (List.mem_append_right _ h))) 0 (by decide) (List.mem_of_getElem? (i := 1) rfl) rfl dX3_person_105 ?_
      refine q_getS C (vU_n w.1) (fun w h => List.mem_cons_of_mem _ (List.mem_append_right _ h)) 4 (by decide) (List.mem_of_getElem? (i := 6) rfl) rfl dX3_person_108 ?_
      refine q_iload_n C hl dX3_person_111 rfl 1 rfl ?_
      refine q_Sld C (vU_n w.1) 5 4 rfl ⟨by omega, by omega⟩ dX3_person_112 ?_
      exact q_iret C w dX3_person_113 (by unfold psu; rw [if_pos (by omega), if_neg (by omega), if_neg (by omega), if_neg (by omega), if_neg (by omega), if_pos (by omega)]; exact congrArg σ (by omega)) rfl
    by_cases c7 : wh = 5
    · refine q_tabIn (v := 5) (tgt := 114) C dX3_person_14 c7 ⟨by omega, by omega⟩ (by decide) (by decide) rfl (by decide) ?_
      refine q_aload_n C hl dX3_person_114 rfl 0 rfl ?_
      refine q_getU C w.1 (fun w h => List.mem_cons_of_mem _ (List.mem_append_left _ (List.mem_append_right _ h))) 0 (by decide) (List.mem_of_getElem? (i := 1) rfl) rfl dX3_person_115 ?_
      refine q_getS C (vU_n w.1) (fun w h => List.mem_cons_of_mem _ (List.mem_append_right _ h)) 4 (by decide) (List.mem_of_getElem? (i := 6) rfl) rfl dX3_person_118 ?_
      refine q_iload_n C hl dX3_person_121 rfl 1 rfl ?_
      refine q_Sld C (vU_n w.1) 5 4 rfl ⟨by omega, by omega⟩ dX3_person_122 ?_
      refine q_if_ne (tgt := 131) C dX3_person_123 (by decide) ⟨by omega, by omega⟩ (fun c8 => ?_) (fun c8 => ?_)
      · have c8 := c8
        refine q_aload_n C hl dX3_person_131 rfl 0 rfl ?_
        refine q_getU C w.1 (fun w h => List.mem_cons_of_mem _ (List.mem_append_left _ (List.mem_append_right _ h))) 0 (by decide) (List.mem_of_getElem? (i := 1) rfl) rfl dX3_person_132 ?_
        refine q_iload_n C hl dX3_person_135 rfl 1 rfl ?_
        refine q_runi C w fu_n (q_V (As := [.int (jj p)]) (rest := []) C w fu_n fX1_leastReached gX3_person_X1_leastReached rfl ⟨Nat.le_of_ble_eq_true rfl, Nat.le_of_ble_eq_true rfl⟩ (kX1_leastReached l D cI cC cS hn adn σ p ⟨by omega, by omega⟩ (by omega) _) (q0 := 0) rfl rfl rfl rfl hl (Nat.le_of_ble_eq_true rfl) dX3_person_136 ⟨Nat.le_refl 0, Nat.le_refl 0⟩) (fun H locs w => ?_)
        exact q_iret C w dX3_person_139 (by unfold psu; (repeat' split) <;> omega) rfl
      · have c8 := c8
        refine q_bipush C dX3_person_126 (by decide) ?_
        refine q_goto (tgt := 139) C dX3_person_128 (by decide) ?_
        exact q_iret C w dX3_person_139 (by unfold psu; (repeat' split) <;> omega) rfl
    by_cases c9 : wh = 6
    · refine q_tabIn (v := 6) (tgt := 140) C dX3_person_14 c9 ⟨by omega, by omega⟩ (by decide) (by decide) rfl (by decide) ?_
      refine q_aload_n C hl dX3_person_140 rfl 0 rfl ?_
      refine q_getU C w.1 (fun w h => List.mem_cons_of_mem _ (List.mem_append_left _ (List.mem_append_right _ h))) 0 (by decide) (List.mem_of_getElem? (i := 1) rfl) rfl dX3_person_141 ?_
      refine q_getS C (vU_n w.1) (fun w h => List.mem_cons_of_mem _ (List.mem_append_right _ h)) 4 (by decide) (List.mem_of_getElem? (i := 6) rfl) rfl dX3_person_144 ?_
      refine q_iload_n C hl dX3_person_147 rfl 1 rfl ?_
      refine q_Sld C (vU_n w.1) 5 4 rfl ⟨by omega, by omega⟩ dX3_person_148 ?_
      refine q_if_ne (tgt := 157) C dX3_person_149 (by decide) ⟨by omega, by omega⟩ (fun c10 => ?_) (fun c10 => ?_)
      · have c10 := c10
        refine q_aload_n C hl dX3_person_157 rfl 0 rfl ?_
        refine q_getU C w.1 (fun w h => List.mem_cons_of_mem _ (List.mem_append_left _ (List.mem_append_right _ h))) 0 (by decide) (List.mem_of_getElem? (i := 1) rfl) rfl dX3_person_158 ?_
        refine q_iload_n C hl dX3_person_161 rfl 1 rfl ?_
        refine q_runi C w fu_n (q_V (As := [.int (jj p)]) (rest := []) C w fu_n fX1_greatestReached gX3_person_X1_greatestReached rfl ⟨Nat.le_of_ble_eq_true rfl, Nat.le_of_ble_eq_true rfl⟩ (kX1_greatestReached l D cI cC cS hn adn σ p ⟨by omega, by omega⟩ (by omega) (by omega) _) (q0 := 0) rfl rfl rfl rfl hl (Nat.le_of_ble_eq_true rfl) dX3_person_162 ⟨Nat.le_refl 0, Nat.le_refl 0⟩) (fun H locs w => ?_)
        exact q_iret C w dX3_person_165 (by unfold psu; (repeat' split) <;> omega) rfl
      · have c10 := c10
        refine q_bipush C dX3_person_152 (by decide) ?_
        refine q_goto (tgt := 165) C dX3_person_154 (by decide) ?_
        exact q_iret C w dX3_person_165 (by unfold psu; (repeat' split) <;> omega) rfl
    by_cases c11 : wh = 7
    · refine q_tabIn (v := 7) (tgt := 166) C dX3_person_14 c11 ⟨by omega, by omega⟩ (by decide) (by decide) rfl (by decide) ?_
      refine q_aload_n C hl dX3_person_166 rfl 0 rfl ?_
      refine q_getU C w.1 (fun w h => List.mem_cons_of_mem _ (List.mem_append_left _ (List.mem_append_right _ h))) 0 (by decide) (List.mem_of_getElem? (i := 1) rfl) rfl dX3_person_167 ?_
      refine q_iload_n C hl dX3_person_170 rfl 1 rfl ?_
      refine q_runi C w fu_n (q_V (As := [.int (jj p)]) (rest := []) C w fu_n fX1_umbrellasOver gX3_person_X1_umbrellasOver rfl ⟨Nat.le_of_ble_eq_true rfl, Nat.le_of_ble_eq_true rfl⟩ (kX1_umbrellasOver l D cI cC cS hn adn σ p bW (by omega) _) (q0 := 0) rfl rfl rfl rfl hl (Nat.le_of_ble_eq_true rfl) dX3_person_171 ⟨Nat.le_refl 0, Nat.le_refl 0⟩) (fun H locs w => ?_)
      exact q_iret C w dX3_person_174 (by unfold psu; (repeat' split) <;> omega) rfl
    by_cases c12 : wh = 8
    · refine q_tabIn (v := 8) (tgt := 175) C dX3_person_14 c12 ⟨by omega, by omega⟩ (by decide) (by decide) rfl (by decide) ?_
      refine q_aload_n C hl dX3_person_175 rfl 0 rfl ?_
      refine q_getU C w.1 (fun w h => List.mem_cons_of_mem _ (List.mem_append_left _ (List.mem_append_right _ h))) 0 (by decide) (List.mem_of_getElem? (i := 1) rfl) rfl dX3_person_176 ?_
      refine q_getS C (vU_n w.1) (fun w h => List.mem_cons_of_mem _ (List.mem_append_right _ h)) 5 (by decide) (List.mem_of_getElem? (i := 7) rfl) rfl dX3_person_179 ?_
      refine q_iload_n C hl dX3_person_182 rfl 1 rfl ?_
      refine q_Sld C (vU_n w.1) 6 5 rfl ⟨by omega, by omega⟩ dX3_person_183 ?_
      exact q_iret C w dX3_person_184 (by unfold psu; (repeat' split) <;> omega) rfl
    refine q_tabOut (tgt := 185) C dX3_person_14 ⟨by omega, by omega⟩ (by omega) (by decide) ?_
    refine q_bipush C dX3_person_185 (by decide) ?_
    exact q_iret C w dX3_person_187 (by unfold psu; (repeat' split) <;> omega) rfl
  · have c1 := c1
    refine q_iconst C dX3_person_11 ?_
    exact q_iret C w dX3_person_12 (by unfold psu; (repeat' split) <;> omega) rfl

def rX3_placeOf : Room := { frames := 1, cells := 0, slots := 0, locals := 22 }
theorem fX3_placeOf : Fc yX3_placeOf wsX3_placeOf rX3_placeOf cX3_placeOf 3 (some .int) 1 := ⟨⟨_, rfl⟩, rfl, rfl, by decide +kernel, by decide +kernel, by decide +kernel⟩
set_option maxHeartbeats 4000000 in
set_option maxRecDepth 10000 in
theorem kX3_placeOf (l : Launch) (D : va_G) (cI cC cS : ClassId) (h hn : Nat) (adn : Nat → Nat) (hsn : Nat) (ads : Nat → Nat) (hh har hw : Nat) (adw : Nat → Nat) (σ ς : Int → Int) (hs : Nat → Nat) (ha : Nat → Nat → Nat) (η : Nat → Int → Int) (dp : Int) (τ kd am sd q u : Int → Int) (nu : Int) (bY : Iv σ) (z_nu : -2147483648 ≤ nu ∧ nu ≤ 2147483647) : Ki l yX3_placeOf wsX3_placeOf rX3_placeOf D (tz cI cC cS) [.ref h, .int (jj nu)] (uW cI cC cS h hn adn hsn ads hh har hw adw σ ς hs ha η dp τ kd am sd q u) (plu σ nu) (uW cI cC cS h hn adn hsn ads hh har hw adw σ ς hs ha η dp τ kd am sd q u) := by
  obtain ⟨bW, bE, bP, bc, bN, bU, b1, b9, b10, bv, bf⟩ := bY
  have hn_ := bW.1
  have hn2 := bW.2.1
  refine q_entry (cc := cX3_placeOf) (nL := 3) (ret := (some .int)) (by decide) ⟨_, rfl⟩ (Nat.le_of_ble_eq_true rfl) ?_
  intro A pr en s m args below meth c C hin w ls hl
  have w := w
  have hl : lv_has ls 3 [(0, .ref h), (1, .int (jj nu))] := hl
  refine q_iload_n C hl dX3_placeOf_0 rfl 1 rfl ?_
  refine q_iconst C dX3_placeOf_1 ?_
  refine q_sipush C dX3_placeOf_2 (by decide) ?_
  refine q_runi C w fr_nil (q_S (As := [.int (jj nu), .int (jj 0), .int (jj 199)]) (rest := []) C w fr_nil fX3_isWithin gX3_placeOf_X3_isWithin ⟨Nat.le_of_ble_eq_true rfl, Nat.le_of_ble_eq_true rfl⟩ (kX3_isWithin l D cI cC cS nu 0 199 ⟨by omega, by omega⟩ ⟨by omega, by omega⟩ ⟨by omega, by omega⟩ _) rfl rfl hl (Nat.le_of_ble_eq_true rfl) dX3_placeOf_5 ⟨Nat.le_refl 0, Nat.le_refl 0⟩) (fun H locs w => ?_)
  refine q_ifz_ne (tgt := 14) C dX3_placeOf_8 (by decide) (fun c1 => ?_) (fun c1 => ?_)
  · have c1 := c1
    refine q_iconst C dX3_placeOf_14 ?_
    refine q_istore_n (lv' := [(2, .int (jj 0)), (0, .ref h), (1, .int (jj nu))]) C hl dX3_placeOf_15 rfl (by decide) rfl (fun ls hl => ?_)
    have loop16 : ∀ (n16 : Nat) (i : Int), (0 ≤ i) → (i ≤ σ 0) → (∀ k : Int, 0 ≤ k → k < i → σ (13 + 6 * k + 0) ≠ nu) → (σ 0 - i).toNat < n16 → ∀ (H : Heap) (locs : List Loc), Wd D A s (uW cI cC cS h hn adn hsn ads hh har hw adw σ ς hs ha η dp τ kd am sd q u) H locs → ∀ ls : Array Slot, lv_has ls 3 [(0, .ref h), (1, .int (jj nu)), (2, .int (jj i))] → W pr l en rX3_placeOf s m args below meth c H locs 0 0 (MQ below (Qi D (tz cI cC cS) (plu σ nu) (uW cI cC cS h hn adn hsn ads hh har hw adw σ ς hs ha η dp τ kd am sd q u) A) args s 0 0 A) (F0 m 16 ls []) := by
      intro n16
      induction n16 with
      | zero => intro i hi0 hi1 hne hm; exact absurd hm (Nat.not_lt_zero _)
      | succ n16 ih16 =>
        intro i hi0 hi1 hne hm16 H locs w ls hl
        refine q_iload_n C hl dX3_placeOf_16 rfl 2 rfl ?_
        refine q_aload_n C hl dX3_placeOf_17 rfl 0 rfl ?_
        refine q_getU C w.1 (fun w h => List.mem_cons_of_mem _ (List.mem_append_left _ (List.mem_append_right _ h))) 0 (by decide) (List.mem_of_getElem? (i := 1) rfl) rfl dX3_placeOf_18 ?_
        refine q_getS C (vU_n w.1) (fun w h => List.mem_cons_of_mem _ (List.mem_append_right _ h)) 7 (by decide) (List.mem_of_getElem? (i := 2) rfl) rfl dX3_placeOf_21 ?_
        refine q_icmp_ge (tgt := 48) C dX3_placeOf_24 (by decide) ⟨by omega, by omega⟩ ⟨by omega, by omega⟩ (fun c2 => ?_) (fun c2 => ?_)
        · have c2 := c2
          refine q_bipush C dX3_placeOf_48 (by decide) ?_
          exact q_iret C w dX3_placeOf_50 (by unfold plu; rw [if_pos (by omega), plc_no hn_ (fun k k0 k1 => hne k k0 (by omega))]) rfl
        · have c2 := c2
          have hq := bN i hi0 (by omega)
          refine q_aload_n C hl dX3_placeOf_27 rfl 0 rfl ?_
          refine q_getU C w.1 (fun w h => List.mem_cons_of_mem _ (List.mem_append_left _ (List.mem_append_right _ h))) 0 (by decide) (List.mem_of_getElem? (i := 1) rfl) rfl dX3_placeOf_28 ?_
          refine q_getS C (vU_n w.1) (fun w h => List.mem_cons_of_mem _ (List.mem_append_right _ h)) 0 (by decide) (List.mem_of_getElem? (i := 3) rfl) rfl dX3_placeOf_31 ?_
          refine q_iload_n C hl dX3_placeOf_34 rfl 2 rfl ?_
          refine q_Sld C (vU_n w.1) 1 0 rfl ⟨by omega, by omega⟩ dX3_placeOf_35 ?_
          refine q_iload_n C hl dX3_placeOf_36 rfl 1 rfl ?_
          refine q_icmp_ne (tgt := 42) C dX3_placeOf_37 (by decide) ⟨by omega, by omega⟩ ⟨by omega, by omega⟩ (fun c3 => ?_) (fun c3 => ?_)
          · have c3 := c3
            refine q_iinc (lv' := [(2, .int (jj (i + 1))), (0, .ref h), (1, .int (jj nu))]) C hl dX3_placeOf_42 2 rfl (by decide) rfl (fun ls hl => ?_)
            refine q_goto (tgt := 16) C dX3_placeOf_45 (by decide) ?_
            exact ih16 (i + 1) (by omega) (by omega) (fun k k0 k1 => if ee : k = i then (by rw [ee]; omega) else hne k k0 (by omega)) (by omega) _ _ w ls (lv_sub hl [1, 2, 0] rfl)
          · have c3 := c3
            refine q_iload_n C hl dX3_placeOf_40 rfl 2 rfl ?_
            exact q_iret C w dX3_placeOf_41 (by unfold plu; rw [if_pos (by omega), plc_at hi0 (by omega) (by omega) hne]) rfl
    exact loop16 _ 0 (by omega) (by omega) (fun k k0 k1 => absurd k1 (by omega)) (Nat.lt_succ_self _) _ _ w ls (lv_sub hl [1, 2, 0] rfl)
  · have c1 := c1
    refine q_bipush C dX3_placeOf_11 (by decide) ?_
    exact q_iret C w dX3_placeOf_13 (by unfold plu; (repeat' split) <;> omega) rfl

def rX3_ifGust : Room := { frames := 5, cells := 0, slots := 0, locals := 114 }
theorem fX3_ifGust : Fc yX3_ifGust wsX3_ifGust rX3_ifGust cX3_ifGust 5 (some .int) 4 := ⟨⟨_, rfl⟩, rfl, rfl, by decide +kernel, by decide +kernel, by decide +kernel⟩
set_option maxHeartbeats 4000000 in
set_option maxRecDepth 10000 in
theorem kX3_ifGust (l : Launch) (D : va_G) (cI cC cS : ClassId) (h hn : Nat) (adn : Nat → Nat) (hsn : Nat) (ads : Nat → Nat) (hh har hw : Nat) (adw : Nat → Nat) (σ ς : Int → Int) (hs : Nat → Nat) (ha : Nat → Nat → Nat) (η : Nat → Int → Int) (dp : Int) (τ kd am sd q u : Int → Int) (p d side wh : Int) (bY : Iv σ) (z_p : -2147483648 ≤ p ∧ p ≤ 2147483647) (z_d : -2147483648 ≤ d ∧ d ≤ 2147483647) (z_side : -2147483648 ≤ side ∧ side ≤ 2147483647) (z_wh : -2147483648 ≤ wh ∧ wh ≤ 2147483647) : Ki l yX3_ifGust wsX3_ifGust rX3_ifGust D (tz cI cC cS) [.ref h, .int (jj p), .int (jj d), .int (jj side), .int (jj wh)] (uW cI cC cS h hn adn hsn ads hh har hw adw σ ς hs ha η dp τ kd am sd q u) (ifu σ p d side wh) (uW cI cC cS h hn adn hsn ads hh har hw adw σ ς hs ha η dp τ kd am sd q u) := by
  obtain ⟨bW, bE, bP, bc, bN, bU, b1, b9, b10, bv, bf⟩ := bY
  have hn_ := bW.1
  have hn2 := bW.2.1
  refine q_entry (cc := cX3_ifGust) (nL := 5) (ret := (some .int)) (by decide) ⟨_, rfl⟩ (Nat.le_of_ble_eq_true rfl) ?_
  intro A pr en s m args below meth c C hin w ls hl
  have w := w
  have hl : lv_has ls 5 [(0, .ref h), (1, .int (jj p)), (2, .int (jj d)), (3, .int (jj side)), (4, .int (jj wh))] := hl
  refine q_aload_n C hl dX3_ifGust_0 rfl 0 rfl ?_
  refine q_getU C w.1 (fun w h => List.mem_cons_of_mem _ (List.mem_append_left _ (List.mem_append_right _ h))) 0 (by decide) (List.mem_of_getElem? (i := 1) rfl) rfl dX3_ifGust_1 ?_
  refine q_iload_n C hl dX3_ifGust_4 rfl 1 rfl ?_
  refine q_runi C w fu_n (q_V (As := [.int (jj p)]) (rest := []) C w fu_n fX1_isPlace gX3_ifGust_X1_isPlace rfl ⟨Nat.le_of_ble_eq_true rfl, Nat.le_of_ble_eq_true rfl⟩ (kX1_isPlace l D cI cC cS hn adn σ p ⟨by omega, by omega⟩ (by omega) _) (q0 := 0) rfl rfl rfl rfl hl (Nat.le_of_ble_eq_true rfl) dX3_ifGust_5 ⟨Nat.le_refl 0, Nat.le_refl 0⟩) (fun H locs w => ?_)
  refine q_ifz_ne (tgt := 13) C dX3_ifGust_8 (by decide) (fun c1 => ?_) (fun c1 => ?_)
  · have c1 := c1
    refine q_iload_n C hl dX3_ifGust_13 rfl 2 rfl ?_
    refine q_iload_n C hl dX3_ifGust_14 rfl 3 rfl ?_
    refine q_runi C w fr_nil (q_S (As := [.int (jj d), .int (jj side)]) (rest := []) C w fr_nil fX3_isGust gX3_ifGust_X3_isGust ⟨Nat.le_of_ble_eq_true rfl, Nat.le_of_ble_eq_true rfl⟩ (kX3_isGust l D cI cC cS d side (by omega) (by omega) _) rfl rfl hl (Nat.le_of_ble_eq_true rfl) dX3_ifGust_15 ⟨Nat.le_refl 0, Nat.le_refl 0⟩) (fun H locs w => ?_)
    refine q_ifz_ne (tgt := 24) C dX3_ifGust_18 (by decide) (fun c2 => ?_) (fun c2 => ?_)
    · have c2 := c2
      have hq := bE p (by omega) (by omega)
      have hq2 := bP p (by omega) (by omega)
      have hb := wby_b bW (p := p) (d := d) (side := side) (by omega) (by omega) hq.1
      refine q_iload C hl dX3_ifGust_24 4 rfl ?_
      by_cases c3 : wh = 0
      · refine q_tabIn (v := 0) (tgt := 56) C dX3_ifGust_26 c3 ⟨by omega, by omega⟩ (by decide) (by decide) rfl (by decide) ?_
        refine q_aload_n C hl dX3_ifGust_56 rfl 0 rfl ?_
        refine q_getU C w.1 (fun w h => List.mem_cons_of_mem _ (List.mem_append_left _ (List.mem_append_right _ h))) 0 (by decide) (List.mem_of_getElem? (i := 1) rfl) rfl dX3_ifGust_57 ?_
        refine q_iload_n C hl dX3_ifGust_60 rfl 1 rfl ?_
        refine q_iload_n C hl dX3_ifGust_61 rfl 3 rfl ?_
        refine q_runi C w fu_n (q_V (As := [.int (jj p), .int (jj side)]) (rest := []) C w fu_n fX1_isCovered gX3_ifGust_X1_isCovered rfl ⟨Nat.le_of_ble_eq_true rfl, Nat.le_of_ble_eq_true rfl⟩ (kX1_isCovered l D cI cC cS hn adn σ p side bW (by omega) (by omega) _) (q0 := 0) rfl rfl rfl rfl hl (Nat.le_of_ble_eq_true rfl) dX3_ifGust_62 ⟨Nat.le_refl 0, Nat.le_refl 0⟩) (fun H locs w => ?_)
        refine q_ifz_eq (tgt := 72) C dX3_ifGust_65 (by decide) (fun c4 => ?_) (fun c4 => ?_)
        · have c4 := c4
          refine q_iconst C dX3_ifGust_72 ?_
          exact q_iret C w dX3_ifGust_73 (by unfold ifu tol bI; (repeat' split) <;> omega) rfl
        · have c4 := c4
          refine q_iconst C dX3_ifGust_68 ?_
          refine q_goto (tgt := 73) C dX3_ifGust_69 (by decide) ?_
          exact q_iret C w dX3_ifGust_73 (by unfold ifu tol bI; (repeat' split) <;> omega) rfl
      by_cases c5 : wh = 1
      · refine q_tabIn (v := 1) (tgt := 74) C dX3_ifGust_26 c5 ⟨by omega, by omega⟩ (by decide) (by decide) rfl (by decide) ?_
        refine q_aload_n C hl dX3_ifGust_74 rfl 0 rfl ?_
        refine q_getU C w.1 (fun w h => List.mem_cons_of_mem _ (List.mem_append_left _ (List.mem_append_right _ h))) 0 (by decide) (List.mem_of_getElem? (i := 1) rfl) rfl dX3_ifGust_75 ?_
        refine q_iload_n C hl dX3_ifGust_78 rfl 1 rfl ?_
        refine q_runi C w fu_n (q_V (As := [.int (jj p)]) (rest := []) C w fu_n fX1_umbrellasRunningOnto gX3_ifGust_X1_umbrellasRunningOnto rfl ⟨Nat.le_of_ble_eq_true rfl, Nat.le_of_ble_eq_true rfl⟩ (kX1_umbrellasRunningOnto l D cI cC cS hn adn σ p bW (by omega) _) (q0 := 0) rfl rfl rfl rfl hl (Nat.le_of_ble_eq_true rfl) dX3_ifGust_79 ⟨Nat.le_refl 0, Nat.le_refl 0⟩) (fun H locs w => ?_)
        exact q_iret C w dX3_ifGust_82 (by unfold ifu tol bI; (repeat' split) <;> omega) rfl
      by_cases c6 : wh = 2
      · refine q_tabIn (v := 2) (tgt := 83) C dX3_ifGust_26 c6 ⟨by omega, by omega⟩ (by decide) (by decide) rfl (by decide) ?_
        refine q_aload_n C hl dX3_ifGust_83 rfl 0 rfl ?_
        refine q_getU C w.1 (fun w h => List.mem_cons_of_mem _ (List.mem_append_left _ (List.mem_append_right _ h))) 0 (by decide) (List.mem_of_getElem? (i := 1) rfl) rfl dX3_ifGust_84 ?_
        refine q_iload_n C hl dX3_ifGust_87 rfl 1 rfl ?_
        refine q_iload_n C hl dX3_ifGust_88 rfl 2 rfl ?_
        refine q_iload_n C hl dX3_ifGust_89 rfl 3 rfl ?_
        refine q_runi C w fu_n (q_V (As := [.int (jj p), .int (jj d), .int (jj side)]) (rest := []) C w fu_n fX1_wetnessAfter gX3_ifGust_X1_wetnessAfter rfl ⟨Nat.le_of_ble_eq_true rfl, Nat.le_of_ble_eq_true rfl⟩ (kX1_wetnessAfter l D cI cC cS hn adn σ p d side bW (by omega) (by omega) (by omega) (by omega) _) (q0 := 0) rfl rfl rfl rfl hl (Nat.le_of_ble_eq_true rfl) dX3_ifGust_90 ⟨Nat.le_refl 0, Nat.le_refl 0⟩) (fun H locs w => ?_)
        exact q_iret C w dX3_ifGust_93 (by unfold ifu tol bI; (repeat' split) <;> omega) rfl
      by_cases c7 : wh = 3
      · refine q_tabIn (v := 3) (tgt := 94) C dX3_ifGust_26 c7 ⟨by omega, by omega⟩ (by decide) (by decide) rfl (by decide) ?_
        refine q_aload_n C hl dX3_ifGust_94 rfl 0 rfl ?_
        refine q_getU C w.1 (fun w h => List.mem_cons_of_mem _ (List.mem_append_left _ (List.mem_append_right _ h))) 0 (by decide) (List.mem_of_getElem? (i := 1) rfl) rfl dX3_ifGust_95 ?_
        refine q_iload_n C hl dX3_ifGust_98 rfl 1 rfl ?_
        refine q_iload_n C hl dX3_ifGust_99 rfl 2 rfl ?_
        refine q_iload_n C hl dX3_ifGust_100 rfl 3 rfl ?_
        refine q_runi C w fu_n (q_V (As := [.int (jj p), .int (jj d), .int (jj side)]) (rest := []) C w fu_n fX1_wetnessAfter gX3_ifGust_X1_wetnessAfter rfl ⟨Nat.le_of_ble_eq_true rfl, Nat.le_of_ble_eq_true rfl⟩ (kX1_wetnessAfter l D cI cC cS hn adn σ p d side bW (by omega) (by omega) (by omega) (by omega) _) (q0 := 0) rfl rfl rfl rfl hl (Nat.le_of_ble_eq_true rfl) dX3_ifGust_101 ⟨Nat.le_refl 0, Nat.le_refl 0⟩) (fun H locs w => ?_)
        refine q_aload_n C hl dX3_ifGust_104 rfl 0 rfl ?_
        refine q_getU C w.1 (fun w h => List.mem_cons_of_mem _ (List.mem_append_left _ (List.mem_append_right _ h))) 0 (by decide) (List.mem_of_getElem? (i := 1) rfl) rfl dX3_ifGust_105 ?_
        refine q_getS C (vU_n w.1) (fun w h => List.mem_cons_of_mem _ (List.mem_append_right _ h)) 2 (by decide) (List.mem_of_getElem? (i := 2) rfl) rfl dX3_ifGust_108 ?_
        refine q_iload_n C hl dX3_ifGust_111 rfl 1 rfl ?_
        refine q_Sld C (vU_n w.1) 3 2 rfl ⟨by omega, by omega⟩ dX3_ifGust_112 ?_
        refine q_icmp_le (tgt := 120) C dX3_ifGust_113 (by decide) ⟨by omega, by omega⟩ ⟨by omega, by omega⟩ (fun c8 => ?_) (fun c8 => ?_)
        · have c8 := c8
          refine q_iconst C dX3_ifGust_120 ?_
          exact q_iret C w dX3_ifGust_121 (by unfold ifu tol bI; (repeat' split) <;> omega) rfl
        · have c8 := c8
          refine q_iconst C dX3_ifGust_116 ?_
          refine q_goto (tgt := 121) C dX3_ifGust_117 (by decide) ?_
          exact q_iret C w dX3_ifGust_121 (by unfold ifu tol bI; (repeat' split) <;> omega) rfl
      refine q_tabOut (tgt := 122) C dX3_ifGust_26 ⟨by omega, by omega⟩ (by omega) (by decide) ?_
      refine q_bipush C dX3_ifGust_122 (by decide) ?_
      exact q_iret C w dX3_ifGust_124 (by unfold ifu tol bI; (repeat' split) <;> omega) rfl
    · have c2 := c2
      refine q_bipush C dX3_ifGust_21 (by decide) ?_
      exact q_iret C w dX3_ifGust_23 (by unfold ifu tol bI; (repeat' split) <;> omega) rfl
  · have c1 := c1
    refine q_iconst C dX3_ifGust_11 ?_
    exact q_iret C w dX3_ifGust_12 (by unfold ifu tol bI; (repeat' split) <;> omega) rfl

def rX3_reason : Room := { frames := 1, cells := 0, slots := 0, locals := 26 }
theorem fX3_reason : Fc yX3_reason wsX3_reason rX3_reason cX3_reason 2 (some .int) 1 := ⟨⟨_, rfl⟩, rfl, rfl, by decide +kernel, by decide +kernel, by decide +kernel⟩
set_option maxHeartbeats 4000000 in
set_option maxRecDepth 10000 in
theorem kX3_reason (l : Launch) (D : va_G) (cI cC cS : ClassId) (h hn : Nat) (adn : Nat → Nat) (hsn : Nat) (ads : Nat → Nat) (hh har hw : Nat) (adw : Nat → Nat) (σ ς : Int → Int) (hs : Nat → Nat) (ha : Nat → Nat → Nat) (η : Nat → Int → Int) (dp : Int) (τ kd am sd q u : Int → Int) (p : Int) (bY : Iv σ) (z_p : -2147483648 ≤ p ∧ p ≤ 2147483647) : Ki l yX3_reason wsX3_reason rX3_reason D (tz cI cC cS) [.ref h, .int (jj p)] (uW cI cC cS h hn adn hsn ads hh har hw adw σ ς hs ha η dp τ kd am sd q u) (reu σ p) (uW cI cC cS h hn adn hsn ads hh har hw adw σ ς hs ha η dp τ kd am sd q u) := by
  obtain ⟨bW, bE, bP, bc, bN, bU, b1, b9, b10, bv, bf⟩ := bY
  have hn_ := bW.1
  have hn2 := bW.2.1
  refine q_entry (cc := cX3_reason) (nL := 2) (ret := (some .int)) (by decide) ⟨_, rfl⟩ (Nat.le_of_ble_eq_true rfl) ?_
  intro A pr en s m args below meth c C hin w ls hl
  have w := w
  have hl : lv_has ls 2 [(0, .ref h), (1, .int (jj p))] := hl
  refine q_aload_n C hl dX3_reason_0 rfl 0 rfl ?_
  refine q_getU C w.1 (fun w h => List.mem_cons_of_mem _ (List.mem_append_left _ (List.mem_append_right _ h))) 0 (by decide) (List.mem_of_getElem? (i := 1) rfl) rfl dX3_reason_1 ?_
  refine q_iload_n C hl dX3_reason_4 rfl 1 rfl ?_
  refine q_runi C w fu_n (q_V (As := [.int (jj p)]) (rest := []) C w fu_n fX1_hasNeighbour gX3_reason_X1_hasNeighbour rfl ⟨Nat.le_of_ble_eq_true rfl, Nat.le_of_ble_eq_true rfl⟩ (kX1_hasNeighbour l D cI cC cS hn adn σ p ⟨by omega, by omega⟩ (by omega) _) (q0 := 0) rfl rfl rfl rfl hl (Nat.le_of_ble_eq_true rfl) dX3_reason_5 ⟨Nat.le_refl 0, Nat.le_refl 0⟩) (fun H locs w => ?_)
  refine q_ifz_eq (tgt := 22) C dX3_reason_8 (by decide) (fun c1 => ?_) (fun c1 => ?_)
  · have c1 := c1
    refine q_iconst C dX3_reason_22 ?_
    exact q_iret C w dX3_reason_23 (by unfold reu; (repeat' split) <;> omega) rfl
  · have c1 := c1
    refine q_aload_n C hl dX3_reason_11 rfl 0 rfl ?_
    refine q_getU C w.1 (fun w h => List.mem_cons_of_mem _ (List.mem_append_left _ (List.mem_append_right _ h))) 0 (by decide) (List.mem_of_getElem? (i := 1) rfl) rfl dX3_reason_12 ?_
    refine q_iload_n C hl dX3_reason_15 rfl 1 rfl ?_
    refine q_runi C w fu_n (q_V (As := [.int (jj p)]) (rest := []) C w fu_n fX1_refusal gX3_reason_X1_refusal rfl ⟨Nat.le_of_ble_eq_true rfl, Nat.le_of_ble_eq_true rfl⟩ (kX1_refusal l D cI cC cS hn adn σ p (by omega) bW bE _) (q0 := 0) rfl rfl rfl rfl hl (Nat.le_of_ble_eq_true rfl) dX3_reason_16 ⟨Nat.le_refl 0, Nat.le_refl 0⟩) (fun H locs w => ?_)
    refine q_goto (tgt := 23) C dX3_reason_19 (by decide) ?_
    exact q_iret C w dX3_reason_23 (by unfold reu; (repeat' split) <;> omega) rfl

def rX3_bestSwap : Room := { frames := 7, cells := 0, slots := 0, locals := 164 }
theorem fX3_bestSwap : Fc yX3_bestSwap wsX3_bestSwap rX3_bestSwap cX3_bestSwap 3 (some .int) 2 := ⟨⟨_, rfl⟩, rfl, rfl, by decide +kernel, by decide +kernel, by decide +kernel⟩
set_option maxHeartbeats 4000000 in
set_option maxRecDepth 10000 in
theorem kX3_bestSwap (l : Launch) (D : va_G) (cI cC cS : ClassId) (h hn : Nat) (adn : Nat → Nat) (hsn : Nat) (ads : Nat → Nat) (hh har hw : Nat) (adw : Nat → Nat) (σ ς : Int → Int) (hs : Nat → Nat) (ha : Nat → Nat → Nat) (η : Nat → Int → Int) (dp : Int) (τ kd am sd q u : Int → Int) (d side : Int) (bY : Iv σ) (z_d : -2147483648 ≤ d ∧ d ≤ 2147483647) (z_side : -2147483648 ≤ side ∧ side ≤ 2147483647) : Ki l yX3_bestSwap wsX3_bestSwap rX3_bestSwap D (tz cI cC cS) [.ref h, .int (jj d), .int (jj side)] (uW cI cC cS h hn adn hsn ads hh har hw adw σ ς hs ha η dp τ kd am sd q u) (bsu σ d side) (uW cI cC cS h hn adn hsn ads hh har hw adw σ ς hs ha η dp τ kd am sd q u) := by
  obtain ⟨bW, bE, bP, bc, bN, bU, b1, b9, b10, bv, bf⟩ := bY
  have hn_ := bW.1
  have hn2 := bW.2.1
  refine q_entry (cc := cX3_bestSwap) (nL := 3) (ret := (some .int)) (by decide) ⟨_, rfl⟩ (Nat.le_of_ble_eq_true rfl) ?_
  intro A pr en s m args below meth c C hin w ls hl
  have w := w
  have hl : lv_has ls 3 [(0, .ref h), (1, .int (jj d)), (2, .int (jj side))] := hl
  refine q_iload_n C hl dX3_bestSwap_0 rfl 1 rfl ?_
  refine q_iload_n C hl dX3_bestSwap_1 rfl 2 rfl ?_
  refine q_runi C w fr_nil (q_S (As := [.int (jj d), .int (jj side)]) (rest := []) C w fr_nil fX3_isGust gX3_bestSwap_X3_isGust ⟨Nat.le_of_ble_eq_true rfl, Nat.le_of_ble_eq_true rfl⟩ (kX3_isGust l D cI cC cS d side (by omega) (by omega) _) rfl rfl hl (Nat.le_of_ble_eq_true rfl) dX3_bestSwap_2 ⟨Nat.le_refl 0, Nat.le_refl 0⟩) (fun H locs w => ?_)
  refine q_ifz_eq (tgt := 20) C dX3_bestSwap_5 (by decide) (fun c1 => ?_) (fun c1 => ?_)
  · have c1 := c1
    refine q_bipush C dX3_bestSwap_20 (by decide) ?_
    exact q_iret C w dX3_bestSwap_22 (by unfold bsu; (repeat' split) <;> omega) rfl
  · have c1 := c1
    refine q_aload_n C hl dX3_bestSwap_8 rfl 0 rfl ?_
    refine q_getU C w.1 (fun w h => List.mem_cons_of_mem _ (List.mem_append_left _ (List.mem_append_right _ h))) 0 (by decide) (List.mem_of_getElem? (i := 1) rfl) rfl dX3_bestSwap_9 ?_
    refine q_iload_n C hl dX3_bestSwap_12 rfl 1 rfl ?_
    refine q_iload_n C hl dX3_bestSwap_13 rfl 2 rfl ?_
    refine q_runi C w fu_n (q_V (As := [.int (jj d), .int (jj side)]) (rest := []) C w fu_n fX1_driestSwap gX3_bestSwap_X1_driestSwap rfl ⟨Nat.le_of_ble_eq_true rfl, Nat.le_of_ble_eq_true rfl⟩ (kX1_driestSwap l D cI cC cS hn adn σ d side bW bE (by omega) (by omega) _) (q0 := 0) rfl rfl rfl rfl hl (Nat.le_of_ble_eq_true rfl) dX3_bestSwap_14 ⟨Nat.le_refl 0, Nat.le_refl 0⟩) (fun H locs w => ?_)
    refine q_goto (tgt := 22) C dX3_bestSwap_17 (by decide) ?_
    exact q_iret C w dX3_bestSwap_22 (by unfold bsu; (repeat' split) <;> omega) rfl

def rX3_payer : Room := { frames := 4, cells := 0, slots := 0, locals := 82 }
theorem fX3_payer : Fc yX3_payer wsX3_payer rX3_payer cX3_payer 3 (some .int) 1 := ⟨⟨_, rfl⟩, rfl, rfl, by decide +kernel, by decide +kernel, by decide +kernel⟩
set_option maxHeartbeats 4000000 in
set_option maxRecDepth 10000 in
theorem kX3_payer (l : Launch) (D : va_G) (cI cC cS : ClassId) (h hn : Nat) (adn : Nat → Nat) (hsn : Nat) (ads : Nat → Nat) (hh har hw : Nat) (adw : Nat → Nat) (σ ς : Int → Int) (hs : Nat → Nat) (ha : Nat → Nat → Nat) (η : Nat → Int → Int) (dp : Int) (τ kd am sd q u : Int → Int) (wh : Int) (bY : Iv σ) (z_wh : -2147483648 ≤ wh ∧ wh ≤ 2147483647) : Ki l yX3_payer wsX3_payer rX3_payer D (tz cI cC cS) [.ref h, .int (jj wh)] (uW cI cC cS h hn adn hsn ads hh har hw adw σ ς hs ha η dp τ kd am sd q u) (pyu σ wh) (uW cI cC cS h hn adn hsn ads hh har hw adw σ ς hs ha η dp τ kd am sd q u) := by
  obtain ⟨bW, bE, bP, bc, bN, bU, b1, b9, b10, bv, bf⟩ := bY
  have hn_ := bW.1
  have hn2 := bW.2.1
  refine q_entry (cc := cX3_payer) (nL := 3) (ret := (some .int)) (by decide) ⟨_, rfl⟩ (Nat.le_of_ble_eq_true rfl) ?_
  intro A pr en s m args below meth c C hin w ls hl
  have w := w
  have hl : lv_has ls 3 [(0, .ref h), (1, .int (jj wh))] := hl
  refine q_iload_n C hl dX3_payer_0 rfl 1 rfl ?_
  refine q_iconst C dX3_payer_1 ?_
  refine q_iconst C dX3_payer_2 ?_
  refine q_runi C w fr_nil (q_S (As := [.int (jj wh), .int (jj 0), .int (jj 1)]) (rest := []) C w fr_nil fX3_isWithin gX3_payer_X3_isWithin ⟨Nat.le_of_ble_eq_true rfl, Nat.le_of_ble_eq_true rfl⟩ (kX3_isWithin l D cI cC cS wh 0 1 ⟨by omega, by omega⟩ ⟨by omega, by omega⟩ ⟨by omega, by omega⟩ _) rfl rfl hl (Nat.le_of_ble_eq_true rfl) dX3_payer_3 ⟨Nat.le_refl 0, Nat.le_refl 0⟩) (fun H locs w => ?_)
  refine q_ifz_ne (tgt := 12) C dX3_payer_6 (by decide) (fun c1 => ?_) (fun c1 => ?_)
  · have c1 := c1
    refine q_aload_n C hl dX3_payer_12 rfl 0 rfl ?_
    refine q_getU C w.1 (fun w h => List.mem_cons_of_mem _ (List.mem_append_left _ (List.mem_append_right _ h))) 0 (by decide) (List.mem_of_getElem? (i := 1) rfl) rfl dX3_payer_13 ?_
    refine q_getS C (vU_n w.1) (fun w h => List.mem_cons_of_mem _ (List.mem_append_right _ h)) 7 (by decide) (List.mem_of_getElem? (i := 2) rfl) rfl dX3_payer_16 ?_
    refine q_if_ne (tgt := 25) C dX3_payer_19 (by decide) ⟨by omega, by omega⟩ (fun c2 => ?_) (fun c2 => ?_)
    · have c2 := c2
      have hs := srv_b (σ := σ) (by omega) bv
      have hd := dri_b σ (n := srv σ) (by omega)
      have hco := bc (dri σ (srv σ)) (by omega) (by omega)
      refine q_aload_n C hl dX3_payer_25 rfl 0 rfl ?_
      refine q_getU C w.1 (fun w h => List.mem_cons_of_mem _ (List.mem_append_left _ (List.mem_append_right _ h))) 0 (by decide) (List.mem_of_getElem? (i := 1) rfl) rfl dX3_payer_26 ?_
      refine q_runi C w fu_n (q_V (As := []) (rest := []) C w fu_n fX1_driestToServe gX3_payer_X1_driestToServe rfl ⟨Nat.le_of_ble_eq_true rfl, Nat.le_of_ble_eq_true rfl⟩ (kX1_driestToServe l D cI cC cS hn adn σ  (by omega) (by omega) bE _) (q0 := 0) rfl rfl rfl rfl hl (Nat.le_of_ble_eq_true rfl) dX3_payer_29 ⟨Nat.le_refl 0, Nat.le_refl 0⟩) (fun H locs w => ?_)
      refine q_istore_n (lv' := [(2, .int (jj (dri σ (srv σ)))), (0, .ref h), (1, .int (jj wh))]) C hl dX3_payer_32 rfl (by decide) rfl (fun ls hl => ?_)
      refine q_iload_n C hl dX3_payer_33 rfl 2 rfl ?_
      refine q_if_ne (tgt := 41) C dX3_payer_34 (by decide) ⟨by omega, by omega⟩ (fun c3 => ?_) (fun c3 => ?_)
      · have c3 := c3
        refine q_aload_n C hl dX3_payer_41 rfl 1 rfl ?_
        refine q_getU C w.1 (fun w h => List.mem_cons_of_mem _ (List.mem_append_left _ (List.mem_append_right _ h))) 0 (by decide) (List.mem_of_getElem? (i := 1) rfl) rfl dX3_payer_42 ?_
        refine q_iload_n C hl dX3_payer_45 rfl 0 rfl ?_
        refine q_runi C w fu_n (q_V (As := [.int (jj (dri σ (srv σ)))]) (rest := []) C w fu_n fX1_paidFrom gX3_payer_X1_paidFrom rfl ⟨Nat.le_of_ble_eq_true rfl, Nat.le_of_ble_eq_true rfl⟩ (kX1_paidFrom l D cI cC cS hn adn σ (dri σ (srv σ)) (by omega) (by omega) (by omega) (by omega) (by omega) _) (q0 := 0) rfl rfl rfl rfl hl (Nat.le_of_ble_eq_true rfl) dX3_payer_46 ⟨Nat.le_refl 0, Nat.le_refl 0⟩) (fun H locs w => ?_)
        exact q_iret C w dX3_payer_49 (by unfold pyu cpd; (repeat' split) <;> omega) rfl
      · have c3 := c3
        refine q_iload_n C hl dX3_payer_37 rfl 0 rfl ?_
        refine q_goto (tgt := 49) C dX3_payer_38 (by decide) ?_
        exact q_iret C w dX3_payer_49 (by unfold pyu cpd; (repeat' split) <;> omega) rfl
    · have c2 := c2
      refine q_bipush C dX3_payer_22 (by decide) ?_
      exact q_iret C w dX3_payer_24 (by unfold pyu cpd; (repeat' split) <;> omega) rfl
  · have c1 := c1
    refine q_bipush C dX3_payer_9 (by decide) ?_
    exact q_iret C w dX3_payer_11 (by unfold pyu cpd; (repeat' split) <;> omega) rfl

def rX3_bears : Room := { frames := 5, cells := 0, slots := 0, locals := 114 }
theorem fX3_bears : Fc yX3_bears wsX3_bears rX3_bears cX3_bears 3 (some .int) 2 := ⟨⟨_, rfl⟩, rfl, rfl, by decide +kernel, by decide +kernel, by decide +kernel⟩
set_option maxHeartbeats 4000000 in
set_option maxRecDepth 10000 in
theorem kX3_bears (l : Launch) (D : va_G) (cI cC cS : ClassId) (h hn : Nat) (adn : Nat → Nat) (hsn : Nat) (ads : Nat → Nat) (hh har hw : Nat) (adw : Nat → Nat) (σ ς : Int → Int) (hs : Nat → Nat) (ha : Nat → Nat → Nat) (η : Nat → Int → Int) (dp : Int) (τ kd am sd q u : Int → Int) (p d : Int) (bY : Iv σ) (z_p : -2147483648 ≤ p ∧ p ≤ 2147483647) (z_d : -2147483648 ≤ d ∧ d ≤ 2147483647) : Ki l yX3_bears wsX3_bears rX3_bears D (tz cI cC cS) [.ref h, .int (jj p), .int (jj d)] (uW cI cC cS h hn adn hsn ads hh har hw adw σ ς hs ha η dp τ kd am sd q u) (beu σ p d) (uW cI cC cS h hn adn hsn ads hh har hw adw σ ς hs ha η dp τ kd am sd q u) := by
  obtain ⟨bW, bE, bP, bc, bN, bU, b1, b9, b10, bv, bf⟩ := bY
  have hn_ := bW.1
  have hn2 := bW.2.1
  refine q_entry (cc := cX3_bears) (nL := 3) (ret := (some .int)) (by decide) ⟨_, rfl⟩ (Nat.le_of_ble_eq_true rfl) ?_
  intro A pr en s m args below meth c C hin w ls hl
  have w := w
  have hl : lv_has ls 3 [(0, .ref h), (1, .int (jj p)), (2, .int (jj d))] := hl
  refine q_aload_n C hl dX3_bears_0 rfl 0 rfl ?_
  refine q_getU C w.1 (fun w h => List.mem_cons_of_mem _ (List.mem_append_left _ (List.mem_append_right _ h))) 0 (by decide) (List.mem_of_getElem? (i := 1) rfl) rfl dX3_bears_1 ?_
  refine q_iload_n C hl dX3_bears_4 rfl 1 rfl ?_
  refine q_runi C w fu_n (q_V (As := [.int (jj p)]) (rest := []) C w fu_n fX1_isPlace gX3_bears_X1_isPlace rfl ⟨Nat.le_of_ble_eq_true rfl, Nat.le_of_ble_eq_true rfl⟩ (kX1_isPlace l D cI cC cS hn adn σ p ⟨by omega, by omega⟩ (by omega) _) (q0 := 0) rfl rfl rfl rfl hl (Nat.le_of_ble_eq_true rfl) dX3_bears_5 ⟨Nat.le_refl 0, Nat.le_refl 0⟩) (fun H locs w => ?_)
  refine q_ifz_ne (tgt := 13) C dX3_bears_8 (by decide) (fun c1 => ?_) (fun c1 => ?_)
  · have c1 := c1
    refine q_iload_n C hl dX3_bears_13 rfl 2 rfl ?_
    refine q_iconst C dX3_bears_14 ?_
    refine q_bipush C dX3_bears_15 (by decide) ?_
    refine q_runi C w fr_nil (q_S (As := [.int (jj d), .int (jj 1), .int (jj 99)]) (rest := []) C w fr_nil fX3_isWithin gX3_bears_X3_isWithin ⟨Nat.le_of_ble_eq_true rfl, Nat.le_of_ble_eq_true rfl⟩ (kX3_isWithin l D cI cC cS d 1 99 ⟨by omega, by omega⟩ ⟨by omega, by omega⟩ ⟨by omega, by omega⟩ _) rfl rfl hl (Nat.le_of_ble_eq_true rfl) dX3_bears_17 ⟨Nat.le_refl 0, Nat.le_refl 0⟩) (fun H locs w => ?_)
    refine q_ifz_ne (tgt := 26) C dX3_bears_20 (by decide) (fun c2 => ?_) (fun c2 => ?_)
    · have c2 := c2
      have hq := bE p (by omega) (by omega)
      have hq2 := bP p (by omega) (by omega)
      have hq3 := bU p (by omega) (by omega)
      refine q_aload_n C hl dX3_bears_26 rfl 0 rfl ?_
      refine q_getU C w.1 (fun w h => List.mem_cons_of_mem _ (List.mem_append_left _ (List.mem_append_right _ h))) 0 (by decide) (List.mem_of_getElem? (i := 1) rfl) rfl dX3_bears_27 ?_
      refine q_iload_n C hl dX3_bears_30 rfl 1 rfl ?_
      refine q_iload_n C hl dX3_bears_31 rfl 2 rfl ?_
      refine q_runi C w fu_n (q_V (As := [.int (jj p), .int (jj d)]) (rest := []) C w fu_n fX1_gustsBorne gX3_bears_X1_gustsBorne rfl ⟨Nat.le_of_ble_eq_true rfl, Nat.le_of_ble_eq_true rfl⟩ (kX1_gustsBorne l D cI cC cS hn adn σ p d bW (by omega) (by omega) (by omega) _) (q0 := 0) rfl rfl rfl rfl hl (Nat.le_of_ble_eq_true rfl) dX3_bears_32 ⟨Nat.le_refl 0, Nat.le_refl 0⟩) (fun H locs w => ?_)
      exact q_iret C w dX3_bears_35 (by unfold beu; (repeat' split) <;> omega) rfl
    · have c2 := c2
      refine q_bipush C dX3_bears_23 (by decide) ?_
      exact q_iret C w dX3_bears_25 (by unfold beu; (repeat' split) <;> omega) rfl
  · have c1 := c1
    refine q_iconst C dX3_bears_11 ?_
    exact q_iret C w dX3_bears_12 (by unfold beu; (repeat' split) <;> omega) rfl

def rX3_count : Room := { frames := 4, cells := 0, slots := 0, locals := 87 }
theorem fX3_count : Fc yX3_count wsX3_count rX3_count cX3_count 2 (some .int) 1 := ⟨⟨_, rfl⟩, rfl, rfl, by decide +kernel, by decide +kernel, by decide +kernel⟩
set_option maxHeartbeats 4000000 in
set_option maxRecDepth 10000 in
theorem kX3_count (l : Launch) (D : va_G) (cI cC cS : ClassId) (h hn : Nat) (adn : Nat → Nat) (hsn : Nat) (ads : Nat → Nat) (hh har hw : Nat) (adw : Nat → Nat) (σ ς : Int → Int) (hs : Nat → Nat) (ha : Nat → Nat → Nat) (η : Nat → Int → Int) (dp : Int) (τ kd am sd q u : Int → Int) (wh : Int) (bY : Iv σ) (z_wh : -2147483648 ≤ wh ∧ wh ≤ 2147483647) : Ki l yX3_count wsX3_count rX3_count D (tz cI cC cS) [.ref h, .int (jj wh)] (uW cI cC cS h hn adn hsn ads hh har hw adw σ ς hs ha η dp τ kd am sd q u) (cnu σ dp (q 1) wh) (uW cI cC cS h hn adn hsn ads hh har hw adw σ ς hs ha η dp τ kd am sd q u) := by
  obtain ⟨bW, bE, bP, bc, bN, bU, b1, b9, b10, bv, bf⟩ := bY
  have hn_ := bW.1
  have hn2 := bW.2.1
  refine q_entry (cc := cX3_count) (nL := 2) (ret := (some .int)) (by decide) ⟨_, rfl⟩ (Nat.le_of_ble_eq_true rfl) ?_
  intro A pr en s m args below meth c C hin w ls hl
  have w := w
  have hl : lv_has ls 2 [(0, .ref h), (1, .int (jj wh))] := hl
  refine q_iload_n C hl dX3_count_0 rfl 1 rfl ?_
  by_cases c1 : wh = 0
  · refine q_tabIn (v := 0) (tgt := 88) C dX3_count_1 c1 ⟨by omega, by omega⟩ (by decide) (by decide) rfl (by decide) ?_
    refine q_aload_n C hl dX3_count_88 rfl 0 rfl ?_
    refine q_getU C w.1 (fun w h => List.mem_cons_of_mem _ (List.mem_append_left _ (List.mem_append_left _ (List.mem_append_left _ (List.mem_append_right _ h))))) 0 (by decide) (List.mem_of_getElem? (i := 1) rfl) rfl dX3_count_89 ?_
    refine q_getS C (vU_n w.1) (fun w h => List.mem_cons_of_mem _ (List.mem_append_left _ (List.mem_append_left _ (List.mem_append_right _ h)))) 7 (by decide) (List.mem_of_getElem? (i := 2) rfl) rfl dX3_count_92 ?_
    exact q_iret C w dX3_count_95 (by unfold cnu; rw [if_pos (by omega)]; exact congrArg σ (by omega)) rfl
  by_cases c2 : wh = 1
  · refine q_tabIn (v := 1) (tgt := 96) C dX3_count_1 c2 ⟨by omega, by omega⟩ (by decide) (by decide) rfl (by decide) ?_
    refine q_aload_n C hl dX3_count_96 rfl 0 rfl ?_
    refine q_getU C w.1 (fun w h => List.mem_cons_of_mem _ (List.mem_append_left _ (List.mem_append_left _ (List.mem_append_left _ (List.mem_append_right _ h))))) 0 (by decide) (List.mem_of_getElem? (i := 1) rfl) rfl dX3_count_97 ?_
    refine q_getS C (vU_n w.1) (fun w h => List.mem_cons_of_mem _ (List.mem_append_left _ (List.mem_append_left _ (List.mem_append_right _ h)))) 8 (by decide) (List.mem_of_getElem? (i := 3) rfl) rfl dX3_count_100 ?_
    exact q_iret C w dX3_count_103 (by unfold cnu; rw [if_pos (by omega)]; exact congrArg σ (by omega)) rfl
  by_cases c3 : wh = 2
  · refine q_tabIn (v := 2) (tgt := 104) C dX3_count_1 c3 ⟨by omega, by omega⟩ (by decide) (by decide) rfl (by decide) ?_
    refine q_aload_n C hl dX3_count_104 rfl 0 rfl ?_
    refine q_getU C w.1 (fun w h => List.mem_cons_of_mem _ (List.mem_append_left _ (List.mem_append_left _ (List.mem_append_left _ (List.mem_append_right _ h))))) 0 (by decide) (List.mem_of_getElem? (i := 1) rfl) rfl dX3_count_105 ?_
    refine q_getS C (vU_n w.1) (fun w h => List.mem_cons_of_mem _ (List.mem_append_left _ (List.mem_append_left _ (List.mem_append_right _ h)))) 9 (by decide) (List.mem_of_getElem? (i := 4) rfl) rfl dX3_count_108 ?_
    exact q_iret C w dX3_count_111 (by unfold cnu; rw [if_pos (by omega)]; exact congrArg σ (by omega)) rfl
  by_cases c4 : wh = 3
  · refine q_tabIn (v := 3) (tgt := 112) C dX3_count_1 c4 ⟨by omega, by omega⟩ (by decide) (by decide) rfl (by decide) ?_
    refine q_aload_n C hl dX3_count_112 rfl 0 rfl ?_
    refine q_getU C w.1 (fun w h => List.mem_cons_of_mem _ (List.mem_append_left _ (List.mem_append_left _ (List.mem_append_left _ (List.mem_append_right _ h))))) 0 (by decide) (List.mem_of_getElem? (i := 1) rfl) rfl dX3_count_113 ?_
    refine q_getS C (vU_n w.1) (fun w h => List.mem_cons_of_mem _ (List.mem_append_left _ (List.mem_append_left _ (List.mem_append_right _ h)))) 10 (by decide) (List.mem_of_getElem? (i := 5) rfl) rfl dX3_count_116 ?_
    exact q_iret C w dX3_count_119 (by unfold cnu; rw [if_pos (by omega)]; exact congrArg σ (by omega)) rfl
  by_cases c5 : wh = 4
  · refine q_tabIn (v := 4) (tgt := 120) C dX3_count_1 c5 ⟨by omega, by omega⟩ (by decide) (by decide) rfl (by decide) ?_
    refine q_aload_n C hl dX3_count_120 rfl 0 rfl ?_
    refine q_getU C w.1 (fun w h => List.mem_cons_of_mem _ (List.mem_append_left _ (List.mem_append_left _ (List.mem_append_left _ (List.mem_append_right _ h))))) 0 (by decide) (List.mem_of_getElem? (i := 1) rfl) rfl dX3_count_121 ?_
    refine q_getS C (vU_n w.1) (fun w h => List.mem_cons_of_mem _ (List.mem_append_left _ (List.mem_append_left _ (List.mem_append_right _ h)))) 11 (by decide) (List.mem_of_getElem? (i := 6) rfl) rfl dX3_count_124 ?_
    exact q_iret C w dX3_count_127 (by unfold cnu; rw [if_pos (by omega)]; exact congrArg σ (by omega)) rfl
  by_cases c6 : wh = 5
  · refine q_tabIn (v := 5) (tgt := 128) C dX3_count_1 c6 ⟨by omega, by omega⟩ (by decide) (by decide) rfl (by decide) ?_
    refine q_aload_n C hl dX3_count_128 rfl 0 rfl ?_
    refine q_getU C w.1 (fun w h => List.mem_cons_of_mem _ (List.mem_append_left _ (List.mem_append_left _ (List.mem_append_left _ (List.mem_append_right _ h))))) 0 (by decide) (List.mem_of_getElem? (i := 1) rfl) rfl dX3_count_129 ?_
    refine q_getS C (vU_n w.1) (fun w h => List.mem_cons_of_mem _ (List.mem_append_left _ (List.mem_append_left _ (List.mem_append_right _ h)))) 12 (by decide) (List.mem_of_getElem? (i := 7) rfl) rfl dX3_count_132 ?_
    exact q_iret C w dX3_count_135 (by unfold cnu; rw [if_pos (by omega)]; exact congrArg σ (by omega)) rfl
  by_cases c7 : wh = 6
  · refine q_tabIn (v := 6) (tgt := 136) C dX3_count_1 c7 ⟨by omega, by omega⟩ (by decide) (by decide) rfl (by decide) ?_
    refine q_aload_n C hl dX3_count_136 rfl 0 rfl ?_
    refine q_getU C w.1 (fun w h => List.mem_cons_of_mem _ (List.mem_append_left _ (List.mem_append_left _ (List.mem_append_left _ (List.mem_append_right _ h))))) 0 (by decide) (List.mem_of_getElem? (i := 1) rfl) rfl dX3_count_137 ?_
    refine q_getS C (vU_n w.1) (fun w h => List.mem_cons_of_mem _ (List.mem_append_left _ (List.mem_append_left _ (List.mem_append_right _ h)))) 13 (by decide) (List.mem_of_getElem? (i := 8) rfl) rfl dX3_count_140 ?_
    exact q_iret C w dX3_count_143 (by unfold cnu; rw [if_pos (by omega)]; exact congrArg σ (by omega)) rfl
  by_cases c8 : wh = 7
  · refine q_tabIn (v := 7) (tgt := 144) C dX3_count_1 c8 ⟨by omega, by omega⟩ (by decide) (by decide) rfl (by decide) ?_
    refine q_aload_n C hl dX3_count_144 rfl 0 rfl ?_
    refine q_getU C w.1 (fun w h => List.mem_cons_of_mem _ (List.mem_append_left _ (List.mem_append_left _ (List.mem_append_left _ (List.mem_append_right _ h))))) 0 (by decide) (List.mem_of_getElem? (i := 1) rfl) rfl dX3_count_145 ?_
    refine q_getS C (vU_n w.1) (fun w h => List.mem_cons_of_mem _ (List.mem_append_left _ (List.mem_append_left _ (List.mem_append_right _ h)))) 14 (by decide) (List.mem_of_getElem? (i := 9) rfl) rfl dX3_count_148 ?_
    exact q_iret C w dX3_count_151 (by unfold cnu; rw [if_pos (by omega)]; exact congrArg σ (by omega)) rfl
  by_cases c9 : wh = 8
  · refine q_tabIn (v := 8) (tgt := 152) C dX3_count_1 c9 ⟨by omega, by omega⟩ (by decide) (by decide) rfl (by decide) ?_
    refine q_aload_n C hl dX3_count_152 rfl 0 rfl ?_
    refine q_getU C w.1 (fun w h => List.mem_cons_of_mem _ (List.mem_append_left _ (List.mem_append_left _ (List.mem_append_left _ (List.mem_append_right _ h))))) 0 (by decide) (List.mem_of_getElem? (i := 1) rfl) rfl dX3_count_153 ?_
    refine q_getS C (vU_n w.1) (fun w h => List.mem_cons_of_mem _ (List.mem_append_left _ (List.mem_append_left _ (List.mem_append_right _ h)))) 15 (by decide) (List.mem_of_getElem? (i := 10) rfl) rfl dX3_count_156 ?_
    exact q_iret C w dX3_count_159 (by unfold cnu; rw [if_pos (by omega)]; exact congrArg σ (by omega)) rfl
  by_cases c10 : wh = 9
  · refine q_tabIn (v := 9) (tgt := 160) C dX3_count_1 c10 ⟨by omega, by omega⟩ (by decide) (by decide) rfl (by decide) ?_
    refine q_aload_n C hl dX3_count_160 rfl 0 rfl ?_
    refine q_getU C w.1 (fun w h => List.mem_cons_of_mem _ (List.mem_append_left _ (List.mem_append_left _ (List.mem_append_left _ (List.mem_append_right _ h))))) 0 (by decide) (List.mem_of_getElem? (i := 1) rfl) rfl dX3_count_161 ?_
    refine q_getS C (vU_n w.1) (fun w h => List.mem_cons_of_mem _ (List.mem_append_left _ (List.mem_append_left _ (List.mem_append_right _ h)))) 16 (by decide) (List.mem_of_getElem? (i := 11) rfl) rfl dX3_count_164 ?_
    exact q_iret C w dX3_count_167 (by unfold cnu; rw [if_pos (by omega)]; exact congrArg σ (by omega)) rfl
  by_cases c11 : wh = 10
  · refine q_tabIn (v := 10) (tgt := 168) C dX3_count_1 c11 ⟨by omega, by omega⟩ (by decide) (by decide) rfl (by decide) ?_
    refine q_aload_n C hl dX3_count_168 rfl 0 rfl ?_
    refine q_getU C w.1 (fun w h => List.mem_cons_of_mem _ (List.mem_append_left _ (List.mem_append_left _ (List.mem_append_left _ (List.mem_append_right _ h))))) 0 (by decide) (List.mem_of_getElem? (i := 1) rfl) rfl dX3_count_169 ?_
    refine q_runi C w fu_n (q_V (As := []) (rest := []) C w fu_n fX1_totalWetness gX3_count_X1_totalWetness rfl ⟨Nat.le_of_ble_eq_true rfl, Nat.le_of_ble_eq_true rfl⟩ (kX1_totalWetness l D cI cC cS hn adn σ  (by omega) _) (q0 := 0) rfl rfl rfl rfl hl (Nat.le_of_ble_eq_true rfl) dX3_count_172 ⟨Nat.le_refl 0, Nat.le_refl 0⟩) (fun H locs w => ?_)
    exact q_iret C w dX3_count_175 (by unfold cnu; (repeat' split) <;> omega) rfl
  by_cases c12 : wh = 11
  · refine q_tabIn (v := 11) (tgt := 176) C dX3_count_1 c12 ⟨by omega, by omega⟩ (by decide) (by decide) rfl (by decide) ?_
    refine q_aload_n C hl dX3_count_176 rfl 0 rfl ?_
    refine q_getU C w.1 (fun w h => List.mem_cons_of_mem _ (List.mem_append_left _ (List.mem_append_left _ (List.mem_append_left _ (List.mem_append_right _ h))))) 0 (by decide) (List.mem_of_getElem? (i := 1) rfl) rfl dX3_count_177 ?_
    refine q_runi C w fu_n (q_V (As := []) (rest := []) C w fu_n fX1_wettest gX3_count_X1_wettest rfl ⟨Nat.le_of_ble_eq_true rfl, Nat.le_of_ble_eq_true rfl⟩ (kX1_wettest l D cI cC cS hn adn σ  (by omega) bE _) (q0 := 0) rfl rfl rfl rfl hl (Nat.le_of_ble_eq_true rfl) dX3_count_180 ⟨Nat.le_refl 0, Nat.le_refl 0⟩) (fun H locs w => ?_)
    exact q_iret C w dX3_count_183 (by unfold cnu; (repeat' split) <;> omega) rfl
  by_cases c13 : wh = 12
  · refine q_tabIn (v := 12) (tgt := 184) C dX3_count_1 c13 ⟨by omega, by omega⟩ (by decide) (by decide) rfl (by decide) ?_
    refine q_aload_n C hl dX3_count_184 rfl 0 rfl ?_
    refine q_getU C w.1 (fun w h => List.mem_cons_of_mem _ (List.mem_append_left _ (List.mem_append_left _ (List.mem_append_left _ (List.mem_append_right _ h))))) 0 (by decide) (List.mem_of_getElem? (i := 1) rfl) rfl dX3_count_185 ?_
    refine q_runi C w fu_n (q_V (As := []) (rest := []) C w fu_n fX1_placesUnreached gX3_count_X1_placesUnreached rfl ⟨Nat.le_of_ble_eq_true rfl, Nat.le_of_ble_eq_true rfl⟩ (kX1_placesUnreached l D cI cC cS hn adn σ  bW _) (q0 := 0) rfl rfl rfl rfl hl (Nat.le_of_ble_eq_true rfl) dX3_count_188 ⟨Nat.le_refl 0, Nat.le_refl 0⟩) (fun H locs w => ?_)
    exact q_iret C w dX3_count_191 (by unfold cnu; (repeat' split) <;> omega) rfl
  by_cases c14 : wh = 13
  · refine q_tabIn (v := 13) (tgt := 192) C dX3_count_1 c14 ⟨by omega, by omega⟩ (by decide) (by decide) rfl (by decide) ?_
    refine q_aload_n C hl dX3_count_192 rfl 0 rfl ?_
    refine q_getU C w.1 (fun w h => List.mem_cons_of_mem _ (List.mem_append_left _ (List.mem_append_left _ (List.mem_append_left _ (List.mem_append_right _ h))))) 0 (by decide) (List.mem_of_getElem? (i := 1) rfl) rfl dX3_count_193 ?_
    refine q_getS C (vU_n w.1) (fun w h => List.mem_cons_of_mem _ (List.mem_append_left _ (List.mem_append_left _ (List.mem_append_right _ h)))) 6 (by decide) (List.mem_of_getElem? (i := 12) rfl) rfl dX3_count_196 ?_
    refine q_iconst C dX3_count_199 ?_
    refine q_Stld (v := σ 10) C (vU_n w.1) ⟨by omega, by omega⟩ rfl dX3_count_200 ?_
    exact q_iret C w dX3_count_201 (by unfold cnu; rw [if_neg (by omega), if_neg (by omega), if_neg (by omega), if_neg (by omega), if_pos (by omega)]; exact congrArg σ (by omega)) rfl
  by_cases c15 : wh = 14
  · refine q_tabIn (v := 14) (tgt := 202) C dX3_count_1 c15 ⟨by omega, by omega⟩ (by decide) (by decide) rfl (by decide) ?_
    refine q_aload_n C hl dX3_count_202 rfl 0 rfl ?_
    refine q_getU C w.1 (fun w h => List.mem_cons_of_mem _ (List.mem_append_left _ (List.mem_append_left _ (List.mem_append_left _ (List.mem_append_right _ h))))) 0 (by decide) (List.mem_of_getElem? (i := 1) rfl) rfl dX3_count_203 ?_
    refine q_getS C (vU_n w.1) (fun w h => List.mem_cons_of_mem _ (List.mem_append_left _ (List.mem_append_left _ (List.mem_append_right _ h)))) 6 (by decide) (List.mem_of_getElem? (i := 12) rfl) rfl dX3_count_206 ?_
    refine q_iconst C dX3_count_209 ?_
    refine q_Stld (v := σ 11) C (vU_n w.1) ⟨by omega, by omega⟩ rfl dX3_count_210 ?_
    exact q_iret C w dX3_count_211 (by unfold cnu; rw [if_neg (by omega), if_neg (by omega), if_neg (by omega), if_neg (by omega), if_pos (by omega)]; exact congrArg σ (by omega)) rfl
  by_cases c16 : wh = 15
  · refine q_tabIn (v := 15) (tgt := 212) C dX3_count_1 c16 ⟨by omega, by omega⟩ (by decide) (by decide) rfl (by decide) ?_
    refine q_aload_n C hl dX3_count_212 rfl 0 rfl ?_
    refine q_getU C w.1 (fun w h => List.mem_cons_of_mem _ (List.mem_append_left _ (List.mem_append_left _ (List.mem_append_left _ (List.mem_append_right _ h))))) 0 (by decide) (List.mem_of_getElem? (i := 1) rfl) rfl dX3_count_213 ?_
    refine q_getS C (vU_n w.1) (fun w h => List.mem_cons_of_mem _ (List.mem_append_left _ (List.mem_append_left _ (List.mem_append_right _ h)))) 6 (by decide) (List.mem_of_getElem? (i := 12) rfl) rfl dX3_count_216 ?_
    refine q_iconst C dX3_count_219 ?_
    refine q_Stld (v := σ 12) C (vU_n w.1) ⟨by omega, by omega⟩ rfl dX3_count_220 ?_
    exact q_iret C w dX3_count_221 (by unfold cnu; rw [if_neg (by omega), if_neg (by omega), if_neg (by omega), if_neg (by omega), if_pos (by omega)]; exact congrArg σ (by omega)) rfl
  by_cases c17 : wh = 16
  · refine q_tabIn (v := 16) (tgt := 222) C dX3_count_1 c17 ⟨by omega, by omega⟩ (by decide) (by decide) rfl (by decide) ?_
    refine q_aload_n C hl dX3_count_222 rfl 0 rfl ?_
    refine q_getU C w.1 (fun w h => List.mem_cons_of_mem _ (List.mem_append_left _ (List.mem_append_left _ (List.mem_append_left _ (List.mem_append_right _ h))))) 2 (by decide) (List.mem_of_getElem? (i := 13) rfl) rfl dX3_count_223 ?_
    refine q_getH C (vU_h w.1) (fun w h => List.mem_cons_of_mem _ (List.mem_append_left _ (List.mem_append_right _ h))) 1 (by decide) (List.mem_of_getElem? (i := 14) rfl) rfl dX3_count_226 ?_
    exact q_iret C w dX3_count_229 (by unfold cnu; (repeat' split) <;> omega) rfl
  by_cases c18 : wh = 17
  · refine q_tabIn (v := 17) (tgt := 230) C dX3_count_1 c18 ⟨by omega, by omega⟩ (by decide) (by decide) rfl (by decide) ?_
    refine q_aload_n C hl dX3_count_230 rfl 0 rfl ?_
    refine q_getU C w.1 (fun w h => List.mem_cons_of_mem _ (List.mem_append_left _ (List.mem_append_left _ (List.mem_append_left _ (List.mem_append_right _ h))))) 3 (by decide) (List.mem_of_getElem? (i := 15) rfl) rfl dX3_count_231 ?_
    refine q_getT (v := .int (jj (q 1))) C (vU_t w.1) (fun w h => List.mem_cons_of_mem _ (List.mem_append_right _ h)) 1 (by decide) (List.mem_of_getElem? (i := 16) rfl) rfl dX3_count_234 ?_
    exact q_iret C w dX3_count_237 (by unfold cnu; (repeat' split) <;> omega) rfl
  refine q_tabOut (tgt := 238) C dX3_count_1 ⟨by omega, by omega⟩ (by omega) (by decide) ?_
  refine q_bipush C dX3_count_238 (by decide) ?_
  exact q_iret C w dX3_count_240 (by unfold cnu; (repeat' split) <;> omega) rfl

