def rX4_come : Room := { frames := 2, cells := 0, slots := 0, locals := 41 }
theorem fX4_come : Fc yX4_come wsX4_come rX4_come cX4_come 5 (some .int) 3 := ⟨⟨_, rfl⟩, rfl, rfl, by decide +kernel, by decide +kernel, by decide +kernel⟩
set_option maxHeartbeats 4000000 in
set_option maxRecDepth 10000 in
theorem kX4_come (l : Launch) (D : va_G) (cI cC cS : ClassId) (h : Nat) (ad : Nat → Nat) (σ α ς β τ q : Int → Int) (pa co wi : Int) (bY : Iv σ) (bk : 0 ≤ q 5 ∧ q 5 ≤ 4) (z_pa : -2147483648 ≤ pa ∧ pa ≤ 2147483647) (z_co : -2147483648 ≤ co ∧ co ≤ 2147483647) (z_wi : -2147483648 ≤ wi ∧ wi ≤ 2147483647) : Ki l yX4_come wsX4_come rX4_come D (tz cI cC cS) [.ref h, .int (jj pa), .int (jj co), .int (jj wi)] (mW cI h ad σ α ς β τ q) (comu σ pa co wi) (mW cI h ad (comv σ pa co wi) (if 0 ≤ comu σ pa co wi then σ else α) ς (if 0 ≤ comu σ pa co wi then rcB β σ (q 5) else β) τ (if 0 ≤ comu σ pa co wi then rcQ q else q)) := by
  obtain ⟨bW, bE, bP, bc, bN, bU, b1, b9, b10, bv, bf⟩ := bY
  have hn := bW.1
  have hn2 := bW.2.1
  refine q_entry (cc := cX4_come) (nL := 5) (ret := (some .int)) (by decide) ⟨_, rfl⟩ (Nat.le_of_ble_eq_true rfl) ?_
  intro A pr en s m args below meth c C hin w ls hl
  have w := w
  have hl : lv_has ls 5 [(0, .ref h), (1, .int (jj pa)), (2, .int (jj co)), (3, .int (jj wi))] := hl
  refine q_iload_n C hl dX4_come_0 rfl 1 rfl ?_
  refine q_bipush C dX4_come_1 (by decide) ?_
  refine q_sipush C dX4_come_3 (by decide) ?_
  refine q_runi C w fr_nil (q_S (As := [.int (jj pa), .int (jj 10), .int (jj 999)]) (rest := []) C w fr_nil fX4_in gX4_come_X4_in ⟨Nat.le_of_ble_eq_true rfl, Nat.le_of_ble_eq_true rfl⟩ (kX4_in l D cI cC cS pa 10 999 ⟨by omega, by omega⟩ ⟨by omega, by omega⟩ ⟨by omega, by omega⟩ _) rfl rfl hl (Nat.le_of_ble_eq_true rfl) dX4_come_6 ⟨Nat.le_refl 0, Nat.le_refl 0⟩) (fun H locs w => ?_)
  refine q_ifz_eq (tgt := 32) C dX4_come_9 (by decide) (fun c1 => ?_) (fun c1 => ?_)
  · have c1 := c1
    refine q_bipush C dX4_come_32 (by decide) ?_
    exact q_iret C w dX4_come_34 (by unfold comu; (repeat' split) <;> omega) (by have hu : comu σ pa co wi = -2 := (by unfold comu; (repeat' split) <;> omega); unfold comv; rw [hu, if_neg (by omega), if_neg (by omega), if_neg (by omega), if_neg (by omega)])
  · have c1 := c1
    refine q_iload_n C hl dX4_come_12 rfl 2 rfl ?_
    refine q_iconst C dX4_come_13 ?_
    refine q_sipush C dX4_come_14 (by decide) ?_
    refine q_runi C w fr_nil (q_S (As := [.int (jj co), .int (jj 0), .int (jj 9999)]) (rest := []) C w fr_nil fX4_in gX4_come_X4_in ⟨Nat.le_of_ble_eq_true rfl, Nat.le_of_ble_eq_true rfl⟩ (kX4_in l D cI cC cS co 0 9999 ⟨by omega, by omega⟩ ⟨by omega, by omega⟩ ⟨by omega, by omega⟩ _) rfl rfl hl (Nat.le_of_ble_eq_true rfl) dX4_come_17 ⟨Nat.le_refl 0, Nat.le_refl 0⟩) (fun H locs w => ?_)
    refine q_ifz_eq (tgt := 32) C dX4_come_20 (by decide) (fun c2 => ?_) (fun c2 => ?_)
    · have c2 := c2
      refine q_bipush C dX4_come_32 (by decide) ?_
      exact q_iret C w dX4_come_34 (by unfold comu; (repeat' split) <;> omega) (by have hu : comu σ pa co wi = -2 := (by unfold comu; (repeat' split) <;> omega); unfold comv; rw [hu, if_neg (by omega), if_neg (by omega), if_neg (by omega), if_neg (by omega)])
    · have c2 := c2
      refine q_iload_n C hl dX4_come_23 rfl 3 rfl ?_
      refine q_iconst C dX4_come_24 ?_
      refine q_iconst C dX4_come_25 ?_
      refine q_runi C w fr_nil (q_S (As := [.int (jj wi), .int (jj 0), .int (jj 5)]) (rest := []) C w fr_nil fX4_in gX4_come_X4_in ⟨Nat.le_of_ble_eq_true rfl, Nat.le_of_ble_eq_true rfl⟩ (kX4_in l D cI cC cS wi 0 5 ⟨by omega, by omega⟩ ⟨by omega, by omega⟩ ⟨by omega, by omega⟩ _) rfl rfl hl (Nat.le_of_ble_eq_true rfl) dX4_come_26 ⟨Nat.le_refl 0, Nat.le_refl 0⟩) (fun H locs w => ?_)
      refine q_ifz_ne (tgt := 35) C dX4_come_29 (by decide) (fun c3 => ?_) (fun c3 => ?_)
      · have c3 := c3
        refine q_aload_n C hl dX4_come_35 rfl 0 rfl ?_
        refine q_getM C w.1 (fun w h => List.mem_cons_of_mem _ (List.mem_append_right _ h)) 0 (by decide) (List.mem_of_getElem? (i := 1) rfl) rfl dX4_come_36 ?_
        refine q_iconst C dX4_come_39 ?_
        refine q_Mld C w.1 ⟨by omega, by omega⟩ dX4_come_40 ?_
        refine q_bipush C dX4_come_41 (by decide) ?_
        refine q_icmp_eq (tgt := 58) C dX4_come_43 (by decide) ⟨by omega, by omega⟩ ⟨by omega, by omega⟩ (fun c4 => ?_) (fun c4 => ?_)
        · have c4 := c4
          refine q_bipush C dX4_come_58 (by decide) ?_
          exact q_iret C w dX4_come_60 (by unfold comu; (repeat' split) <;> omega) (by have hu : comu σ pa co wi = -3 := (by unfold comu; (repeat' split) <;> omega); unfold comv; rw [hu, if_neg (by omega), if_neg (by omega), if_neg (by omega), if_neg (by omega)])
        · have c4 := c4
          refine q_aload_n C hl dX4_come_46 rfl 0 rfl ?_
          refine q_getM C w.1 (fun w h => List.mem_cons_of_mem _ (List.mem_append_right _ h)) 0 (by decide) (List.mem_of_getElem? (i := 1) rfl) rfl dX4_come_47 ?_
          refine q_iconst C dX4_come_50 ?_
          refine q_Mld C w.1 ⟨by omega, by omega⟩ dX4_come_51 ?_
          refine q_sipush C dX4_come_52 (by decide) ?_
          refine q_icmp_ne (tgt := 61) C dX4_come_55 (by decide) ⟨by omega, by omega⟩ ⟨by omega, by omega⟩ (fun c5 => ?_) (fun c5 => ?_)
          · have c5 := c5
            refine q_aload_n C hl dX4_come_61 rfl 0 rfl ?_
            refine q_runv C w fr_all (q_V (As := []) (rest := []) C w fr_all fX4_know gX4_come_X4_know rfl ⟨Nat.le_of_ble_eq_true rfl, Nat.le_of_ble_eq_true rfl⟩ (kX4_know l D cI cC cS h ad σ α ς β τ q  (by omega) _) (q0 := 0) rfl rfl rfl rfl hl (Nat.le_of_ble_eq_true rfl) dX4_come_62 ⟨Nat.le_refl 0, Nat.le_refl 0⟩) (fun H locs w => ?_)
            refine q_aload_n C hl dX4_come_65 rfl 0 rfl ?_
            refine q_getM C w.1 (fun w h => List.mem_cons_of_mem _ (List.mem_append_right _ h)) 0 (by decide) (List.mem_of_getElem? (i := 1) rfl) rfl dX4_come_66 ?_
            refine q_iconst C dX4_come_69 ?_
            refine q_Mld C w.1 ⟨by omega, by omega⟩ dX4_come_70 ?_
            refine q_istore (lv' := [(4, .int (jj (σ 0))), (0, .ref h), (1, .int (jj pa)), (2, .int (jj co)), (3, .int (jj wi))]) C hl dX4_come_71 (by decide) rfl (fun ls hl => ?_)
            refine q_aload_n C hl dX4_come_73 rfl 1 rfl ?_
            refine q_getM C w.1 (fun w h => List.mem_cons_of_mem _ (List.mem_append_right _ h)) 0 (by decide) (List.mem_of_getElem? (i := 1) rfl) rfl dX4_come_74 ?_
            refine q_iconst C dX4_come_77 ?_
            refine q_dup2 C dX4_come_78 rfl rfl ?_
            refine q_Mld C w.1 ⟨by omega, by omega⟩ dX4_come_79 ?_
            refine q_iconst C dX4_come_80 ?_
            refine q_iadd C dX4_come_81 ?_
            refine q_Mst C w ⟨by omega, by omega⟩ dX4_come_82 (fun H locs w => ?_)
            refine q_aload_n C hl dX4_come_83 rfl 1 rfl ?_
            refine q_getM C w.1 (fun w h => List.mem_cons_of_mem _ (List.mem_append_right _ h)) 0 (by decide) (List.mem_of_getElem? (i := 1) rfl) rfl dX4_come_84 ?_
            refine q_iload C hl dX4_come_87 0 rfl ?_
            refine q_iconst C dX4_come_89 ?_
            refine q_runi C w fr_nil (q_S (As := [.int (jj (σ 0)), .int (jj 0)]) (rest := [.ref (ad 0)]) C w fr_nil fX4_at gX4_come_X4_at ⟨Nat.le_of_ble_eq_true rfl, Nat.le_of_ble_eq_true rfl⟩ (kX4_at l D cI cC cS (σ 0) 0  _) rfl rfl hl (Nat.le_of_ble_eq_true rfl) dX4_come_90 ⟨Nat.le_refl 0, Nat.le_refl 0⟩) (fun H locs w => ?_)
            refine q_aload_n C hl dX4_come_93 rfl 1 rfl ?_
            refine q_getM C w.1 (fun w h => List.mem_cons_of_mem _ (List.mem_append_right _ h)) 0 (by decide) (List.mem_of_getElem? (i := 1) rfl) rfl dX4_come_94 ?_
            refine q_iconst C dX4_come_97 ?_
            refine q_Mld C w.1 ⟨by omega, by omega⟩ dX4_come_98 ?_
            refine q_Mst C w ⟨by omega, by omega⟩ dX4_come_99 (fun H locs w => ?_)
            refine q_aload_n C hl dX4_come_100 rfl 1 rfl ?_
            refine q_getM C w.1 (fun w h => List.mem_cons_of_mem _ (List.mem_append_right _ h)) 0 (by decide) (List.mem_of_getElem? (i := 1) rfl) rfl dX4_come_101 ?_
            refine q_iload C hl dX4_come_104 0 rfl ?_
            refine q_iconst C dX4_come_106 ?_
            refine q_runi C w fr_nil (q_S (As := [.int (jj (σ 0)), .int (jj 1)]) (rest := [.ref (ad 0)]) C w fr_nil fX4_at gX4_come_X4_at ⟨Nat.le_of_ble_eq_true rfl, Nat.le_of_ble_eq_true rfl⟩ (kX4_at l D cI cC cS (σ 0) 1  _) rfl rfl hl (Nat.le_of_ble_eq_true rfl) dX4_come_107 ⟨Nat.le_refl 0, Nat.le_refl 0⟩) (fun H locs w => ?_)
            refine q_iconst C dX4_come_110 ?_
            refine q_Mst C w ⟨by omega, by omega⟩ dX4_come_111 (fun H locs w => ?_)
            refine q_aload_n C hl dX4_come_112 rfl 1 rfl ?_
            refine q_getM C w.1 (fun w h => List.mem_cons_of_mem _ (List.mem_append_right _ h)) 0 (by decide) (List.mem_of_getElem? (i := 1) rfl) rfl dX4_come_113 ?_
            refine q_iload C hl dX4_come_116 0 rfl ?_
            refine q_iconst C dX4_come_118 ?_
            refine q_runi C w fr_nil (q_S (As := [.int (jj (σ 0)), .int (jj 2)]) (rest := [.ref (ad 0)]) C w fr_nil fX4_at gX4_come_X4_at ⟨Nat.le_of_ble_eq_true rfl, Nat.le_of_ble_eq_true rfl⟩ (kX4_at l D cI cC cS (σ 0) 2  _) rfl rfl hl (Nat.le_of_ble_eq_true rfl) dX4_come_119 ⟨Nat.le_refl 0, Nat.le_refl 0⟩) (fun H locs w => ?_)
            refine q_iload_n C hl dX4_come_122 rfl 2 rfl ?_
            refine q_Mst C w ⟨by omega, by omega⟩ dX4_come_123 (fun H locs w => ?_)
            refine q_aload_n C hl dX4_come_124 rfl 1 rfl ?_
            refine q_getM C w.1 (fun w h => List.mem_cons_of_mem _ (List.mem_append_right _ h)) 0 (by decide) (List.mem_of_getElem? (i := 1) rfl) rfl dX4_come_125 ?_
            refine q_iload C hl dX4_come_128 0 rfl ?_
            refine q_iconst C dX4_come_130 ?_
            refine q_runi C w fr_nil (q_S (As := [.int (jj (σ 0)), .int (jj 3)]) (rest := [.ref (ad 0)]) C w fr_nil fX4_at gX4_come_X4_at ⟨Nat.le_of_ble_eq_true rfl, Nat.le_of_ble_eq_true rfl⟩ (kX4_at l D cI cC cS (σ 0) 3  _) rfl rfl hl (Nat.le_of_ble_eq_true rfl) dX4_come_131 ⟨Nat.le_refl 0, Nat.le_refl 0⟩) (fun H locs w => ?_)
            refine q_iload_n C hl dX4_come_134 rfl 3 rfl ?_
            refine q_Mst C w ⟨by omega, by omega⟩ dX4_come_135 (fun H locs w => ?_)
            refine q_aload_n C hl dX4_come_136 rfl 1 rfl ?_
            refine q_getM C w.1 (fun w h => List.mem_cons_of_mem _ (List.mem_append_right _ h)) 0 (by decide) (List.mem_of_getElem? (i := 1) rfl) rfl dX4_come_137 ?_
            refine q_iload C hl dX4_come_140 0 rfl ?_
            refine q_iconst C dX4_come_142 ?_
            refine q_runi C w fr_nil (q_S (As := [.int (jj (σ 0)), .int (jj 4)]) (rest := [.ref (ad 0)]) C w fr_nil fX4_at gX4_come_X4_at ⟨Nat.le_of_ble_eq_true rfl, Nat.le_of_ble_eq_true rfl⟩ (kX4_at l D cI cC cS (σ 0) 4  _) rfl rfl hl (Nat.le_of_ble_eq_true rfl) dX4_come_143 ⟨Nat.le_refl 0, Nat.le_refl 0⟩) (fun H locs w => ?_)
            refine q_iload_n C hl dX4_come_146 rfl 4 rfl ?_
            refine q_Mst C w ⟨by omega, by omega⟩ dX4_come_147 (fun H locs w => ?_)
            refine q_aload_n C hl dX4_come_148 rfl 1 rfl ?_
            refine q_getM C w.1 (fun w h => List.mem_cons_of_mem _ (List.mem_append_right _ h)) 0 (by decide) (List.mem_of_getElem? (i := 1) rfl) rfl dX4_come_149 ?_
            refine q_iload C hl dX4_come_152 0 rfl ?_
            refine q_iconst C dX4_come_154 ?_
            refine q_runi C w fr_nil (q_S (As := [.int (jj (σ 0)), .int (jj 5)]) (rest := [.ref (ad 0)]) C w fr_nil fX4_at gX4_come_X4_at ⟨Nat.le_of_ble_eq_true rfl, Nat.le_of_ble_eq_true rfl⟩ (kX4_at l D cI cC cS (σ 0) 5  _) rfl rfl hl (Nat.le_of_ble_eq_true rfl) dX4_come_155 ⟨Nat.le_refl 0, Nat.le_refl 0⟩) (fun H locs w => ?_)
            refine q_iconst C dX4_come_158 ?_
            refine q_Mst C w ⟨by omega, by omega⟩ dX4_come_159 (fun H locs w => ?_)
            refine q_aload_n C hl dX4_come_160 rfl 1 rfl ?_
            refine q_getM C w.1 (fun w h => List.mem_cons_of_mem _ (List.mem_append_right _ h)) 0 (by decide) (List.mem_of_getElem? (i := 1) rfl) rfl dX4_come_161 ?_
            refine q_iconst C dX4_come_164 ?_
            refine q_dup2 C dX4_come_165 rfl rfl ?_
            refine q_Mld C w.1 ⟨by omega, by omega⟩ dX4_come_166 ?_
            refine q_iconst C dX4_come_167 ?_
            refine q_iadd C dX4_come_168 ?_
            refine q_Mst C w ⟨by omega, by omega⟩ dX4_come_169 (fun H locs w => ?_)
            refine q_iload C hl dX4_come_170 0 rfl ?_
            exact q_iret C w dX4_come_172 (by unfold comu; (repeat' split) <;> omega) (by have hu : comu σ pa co wi = σ 0 := (by unfold comu; (repeat' split) <;> omega); unfold comv; rw [hu, if_pos (by omega), if_pos (by omega), if_pos (by omega), if_pos (by omega)] <;> rfl)
          · have c5 := c5
            refine q_bipush C dX4_come_58 (by decide) ?_
            exact q_iret C w dX4_come_60 (by unfold comu; (repeat' split) <;> omega) (by have hu : comu σ pa co wi = -3 := (by unfold comu; (repeat' split) <;> omega); unfold comv; rw [hu, if_neg (by omega), if_neg (by omega), if_neg (by omega), if_neg (by omega)])
      · have c3 := c3
        refine q_bipush C dX4_come_32 (by decide) ?_
        exact q_iret C w dX4_come_34 (by unfold comu; (repeat' split) <;> omega) (by have hu : comu σ pa co wi = -2 := (by unfold comu; (repeat' split) <;> omega); unfold comv; rw [hu, if_neg (by omega), if_neg (by omega), if_neg (by omega), if_neg (by omega)])

def rX4_leave : Room := { frames := 2, cells := 0, slots := 0, locals := 43 }
theorem fX4_leave : Fc yX4_leave wsX4_leave rX4_leave cX4_leave 3 (some .int) 1 := ⟨⟨_, rfl⟩, rfl, rfl, by decide +kernel, by decide +kernel, by decide +kernel⟩
set_option maxHeartbeats 4000000 in
set_option maxRecDepth 10000 in
theorem kX4_leave (l : Launch) (D : va_G) (cI cC cS : ClassId) (h : Nat) (ad : Nat → Nat) (σ α ς β τ q : Int → Int) (p : Int) (bY : Iv σ) (bk : 0 ≤ q 5 ∧ q 5 ≤ 4) (z_p : -2147483648 ≤ p ∧ p ≤ 2147483647) : Ki l yX4_leave wsX4_leave rX4_leave D (tz cI cC cS) [.ref h, .int (jj p)] (mW cI h ad σ α ς β τ q) (levu σ p) (mW cI h ad (levv σ p) (if 0 ≤ levu σ p then σ else α) ς (if 0 ≤ levu σ p then rcB β σ (q 5) else β) τ (if 0 ≤ levu σ p then rcQ q else q)) := by
  obtain ⟨bW, bE, bP, bc, bN, bU, b1, b9, b10, bv, bf⟩ := bY
  have hn := bW.1
  have hn2 := bW.2.1
  refine q_entry (cc := cX4_leave) (nL := 3) (ret := (some .int)) (by decide) ⟨_, rfl⟩ (Nat.le_of_ble_eq_true rfl) ?_
  intro A pr en s m args below meth c C hin w ls hl
  have w := w
  have hl : lv_has ls 3 [(0, .ref h), (1, .int (jj p))] := hl
  refine q_aload_n C hl dX4_leave_0 rfl 0 rfl ?_
  refine q_iload_n C hl dX4_leave_1 rfl 1 rfl ?_
  refine q_runi C w fr_all (q_V (As := [.int (jj p)]) (rest := []) C w fr_all fX4_isPlace gX4_leave_X4_isPlace rfl ⟨Nat.le_of_ble_eq_true rfl, Nat.le_of_ble_eq_true rfl⟩ (kX4_isPlace l D cI cC cS h ad σ α ς β τ q p ⟨by omega, by omega⟩ (by omega) _) (q0 := 0) rfl rfl rfl rfl hl (Nat.le_of_ble_eq_true rfl) dX4_leave_2 ⟨Nat.le_refl 0, Nat.le_refl 0⟩) (fun H locs w => ?_)
  refine q_ifz_ne (tgt := 10) C dX4_leave_5 (by decide) (fun c1 => ?_) (fun c1 => ?_)
  · have c1 := c1
    have hq := bE p (by omega) (by omega)
    refine q_aload_n C hl dX4_leave_10 rfl 0 rfl ?_
    refine q_runv C w fr_all (q_V (As := []) (rest := []) C w fr_all fX4_know gX4_leave_X4_know rfl ⟨Nat.le_of_ble_eq_true rfl, Nat.le_of_ble_eq_true rfl⟩ (kX4_know l D cI cC cS h ad σ α ς β τ q  (by omega) _) (q0 := 0) rfl rfl rfl rfl hl (Nat.le_of_ble_eq_true rfl) dX4_leave_11 ⟨Nat.le_refl 0, Nat.le_refl 0⟩) (fun H locs w => ?_)
    refine q_aload_n C hl dX4_leave_14 rfl 0 rfl ?_
    refine q_iload_n C hl dX4_leave_15 rfl 1 rfl ?_
    refine q_iconst C dX4_leave_16 ?_
    refine q_runi C w fr_all (q_V (As := [.int (jj p), .int (jj 1)]) (rest := []) C w fr_all fX4_of gX4_leave_X4_of rfl ⟨Nat.le_of_ble_eq_true rfl, Nat.le_of_ble_eq_true rfl⟩ (kX4_of l D cI cC cS h ad σ σ ς (rcB β σ (q 5)) τ (rcQ q) p 1 (by omega) (by omega) _) (q0 := 0) rfl rfl rfl rfl hl (Nat.le_of_ble_eq_true rfl) dX4_leave_17 ⟨Nat.le_refl 0, Nat.le_refl 0⟩) (fun H locs w => ?_)
    refine q_istore_n (lv' := [(2, .int (jj (σ (13 + 6 * p + 1)))), (0, .ref h), (1, .int (jj p))]) C hl dX4_leave_20 rfl (by decide) rfl (fun ls hl => ?_)
    refine q_aload_n C hl dX4_leave_21 rfl 1 rfl ?_
    refine q_iload_n C hl dX4_leave_22 rfl 2 rfl ?_
    refine q_runv C w fr_all (q_V (As := [.int (jj p)]) (rest := []) C w fr_all fX4_goes gX4_leave_X4_goes rfl ⟨Nat.le_of_ble_eq_true rfl, Nat.le_of_ble_eq_true rfl⟩ (kX4_goes l D cI cC cS h ad σ σ ς (rcB β σ (q 5)) τ (rcQ q) p (by omega) (by omega) _) (q0 := 0) rfl rfl rfl rfl hl (Nat.le_of_ble_eq_true rfl) dX4_leave_23 ⟨Nat.le_refl 0, Nat.le_refl 0⟩) (fun H locs w => ?_)
    refine q_aload_n C hl dX4_leave_26 rfl 1 rfl ?_
    refine q_getM C w.1 (fun w h => List.mem_cons_of_mem _ (List.mem_append_right _ h)) 0 (by decide) (List.mem_of_getElem? (i := 1) rfl) rfl dX4_leave_27 ?_
    refine q_iconst C dX4_leave_30 ?_
    refine q_dup2 C dX4_leave_31 rfl rfl ?_
    refine q_Mld C w.1 ⟨by omega, by omega⟩ dX4_leave_32 ?_
    refine q_iconst C dX4_leave_33 ?_
    refine q_iadd C dX4_leave_34 ?_
    refine q_Mst C w ⟨by omega, by omega⟩ dX4_leave_35 (fun H locs w => ?_)
    refine q_iload_n C hl dX4_leave_36 rfl 0 rfl ?_
    exact q_iret C w dX4_leave_37 (by unfold levu; (repeat' split) <;> omega) (by have hu : levu σ p = σ (13 + 6 * p + 1) := (by unfold levu; (repeat' split) <;> omega); unfold levv; rw [hu, if_pos (by omega), if_pos (by omega), if_pos (by omega), if_pos (by omega)] <;> rfl)
  · have c1 := c1
    refine q_iconst C dX4_leave_8 ?_
    exact q_iret C w dX4_leave_9 (by unfold levu; (repeat' split) <;> omega) (by have hu : levu σ p = -1 := (by unfold levu; (repeat' split) <;> omega); unfold levv; rw [hu, if_neg (by omega), if_neg (by omega), if_neg (by omega), if_neg (by omega)])

def rX4_letAhead : Room := { frames := 3, cells := 0, slots := 0, locals := 66 }
theorem fX4_letAhead : Fc yX4_letAhead wsX4_letAhead rX4_letAhead cX4_letAhead 3 (some .int) 1 := ⟨⟨_, rfl⟩, rfl, rfl, by decide +kernel, by decide +kernel, by decide +kernel⟩
set_option maxHeartbeats 4000000 in
set_option maxRecDepth 10000 in
theorem kX4_letAhead (l : Launch) (D : va_G) (cI cC cS : ClassId) (h : Nat) (ad : Nat → Nat) (σ α ς β τ q : Int → Int) (p : Int) (bY : Iv σ) (bk : 0 ≤ q 5 ∧ q 5 ≤ 4) (z_p : -2147483648 ≤ p ∧ p ≤ 2147483647) : Ki l yX4_letAhead wsX4_letAhead rX4_letAhead D (tz cI cC cS) [.ref h, .int (jj p)] (mW cI h ad σ α ς β τ q) (ltu σ p) (mW cI h ad (ltv σ p) (if 0 ≤ ltu σ p then σ else α) ς (if 0 ≤ ltu σ p then rcB β σ (q 5) else β) τ (if 0 ≤ ltu σ p then rcQ q else q)) := by
  obtain ⟨bW, bE, bP, bc, bN, bU, b1, b9, b10, bv, bf⟩ := bY
  have hn := bW.1
  have hn2 := bW.2.1
  refine q_entry (cc := cX4_letAhead) (nL := 3) (ret := (some .int)) (by decide) ⟨_, rfl⟩ (Nat.le_of_ble_eq_true rfl) ?_
  intro A pr en s m args below meth c C hin w ls hl
  have w := w
  have hl : lv_has ls 3 [(0, .ref h), (1, .int (jj p))] := hl
  refine q_aload_n C hl dX4_letAhead_0 rfl 0 rfl ?_
  refine q_iload_n C hl dX4_letAhead_1 rfl 1 rfl ?_
  refine q_runi C w fr_all (q_V (As := [.int (jj p)]) (rest := []) C w fr_all fX4_arePair gX4_letAhead_X4_arePair rfl ⟨Nat.le_of_ble_eq_true rfl, Nat.le_of_ble_eq_true rfl⟩ (kX4_arePair l D cI cC cS h ad σ α ς β τ q p ⟨by omega, by omega⟩ (by omega) _) (q0 := 0) rfl rfl rfl rfl hl (Nat.le_of_ble_eq_true rfl) dX4_letAhead_2 ⟨Nat.le_refl 0, Nat.le_refl 0⟩) (fun H locs w => ?_)
  refine q_ifz_ne (tgt := 10) C dX4_letAhead_5 (by decide) (fun c1 => ?_) (fun c1 => ?_)
  · have c1 := c1
    refine q_aload_n C hl dX4_letAhead_10 rfl 0 rfl ?_
    refine q_runv C w fr_all (q_V (As := []) (rest := []) C w fr_all fX4_know gX4_letAhead_X4_know rfl ⟨Nat.le_of_ble_eq_true rfl, Nat.le_of_ble_eq_true rfl⟩ (kX4_know l D cI cC cS h ad σ α ς β τ q  (by omega) _) (q0 := 0) rfl rfl rfl rfl hl (Nat.le_of_ble_eq_true rfl) dX4_letAhead_11 ⟨Nat.le_refl 0, Nat.le_refl 0⟩) (fun H locs w => ?_)
    refine q_iconst C dX4_letAhead_14 ?_
    refine q_istore_n (lv' := [(2, .int (jj 0)), (0, .ref h), (1, .int (jj p))]) C hl dX4_letAhead_15 rfl (by decide) rfl (fun ls hl => ?_)
    have loop16 : ∀ (n16 : Nat) (i : Int), (0 ≤ i) → (i ≤ 6) → (6 - i).toNat < n16 → ∀ (H : Heap) (locs : List Loc), Wd D A s (mW cI h ad (xls σ p i) σ ς (rcB β σ (q 5)) τ (rcQ q)) H locs → ∀ ls : Array Slot, lv_has ls 3 [(0, .ref h), (1, .int (jj p)), (2, .int (jj i))] → W pr l en rX4_letAhead s m args below meth c H locs 0 0 (MQ below (Qi D (tz cI cC cS) (ltu σ p) (mW cI h ad (ltv σ p) (if 0 ≤ ltu σ p then σ else α) ς (if 0 ≤ ltu σ p then rcB β σ (q 5) else β) τ (if 0 ≤ ltu σ p then rcQ q else q)) A) args s 0 0 A) (F0 m 16 ls []) := by
      intro n16
      induction n16 with
      | zero => intro i hi0 hi1 hm; exact absurd hm (Nat.not_lt_zero _)
      | succ n16 ih16 =>
        intro i hi0 hi1 hm16 H locs w ls hl
        refine q_iload_n C hl dX4_letAhead_16 rfl 2 rfl ?_
        refine q_bipush C dX4_letAhead_17 (by decide) ?_
        refine q_icmp_ge (tgt := 34) C dX4_letAhead_19 (by decide) ⟨by omega, by omega⟩ ⟨by omega, by omega⟩ (fun c2 => ?_) (fun c2 => ?_)
        · have c2 := c2
          refine q_aload_n C hl dX4_letAhead_34 rfl 0 rfl ?_
          refine q_iload_n C hl dX4_letAhead_35 rfl 1 rfl ?_
          refine q_iconst C dX4_letAhead_36 ?_
          refine q_runi C w fr_all (q_V (As := [.int (jj p), .int (jj 0)]) (rest := []) C w fr_all fX4_of gX4_letAhead_X4_of rfl ⟨Nat.le_of_ble_eq_true rfl, Nat.le_of_ble_eq_true rfl⟩ (kX4_of l D cI cC cS h ad (xls σ p i) σ ς (rcB β σ (q 5)) τ (rcQ q) p 0 (by omega) (by omega) _) (q0 := 0) rfl rfl rfl rfl hl (Nat.le_of_ble_eq_true rfl) dX4_letAhead_37 ⟨Nat.le_refl 0, Nat.le_refl 0⟩) (fun H locs w => ?_)
          exact q_iret C w dX4_letAhead_40 (by have hx := (xls_i σ (p := p) (by omega) 6 (by omega) (by omega)).2.1 0 (by omega) (by omega); unfold ltu; rw [show i = 6 by omega, hx.1, if_pos (by omega)]) (by have hu : ltu σ p = σ (13 + 6 * (p + 1) + 0) := (by unfold ltu; (repeat' split) <;> omega); have hq := bN (p + 1) (by omega) (by omega); unfold ltv; rw [hu, if_pos (by omega), if_pos (by omega), if_pos (by omega), if_pos (by omega), show i = 6 by omega])
        · have c2 := c2
          refine q_aload_n C hl dX4_letAhead_22 rfl 0 rfl ?_
          refine q_iload_n C hl dX4_letAhead_23 rfl 1 rfl ?_
          refine q_iload_n C hl dX4_letAhead_24 rfl 2 rfl ?_
          refine q_runv C w fr_all (q_V (As := [.int (jj p), .int (jj i)]) (rest := []) C w fr_all fX4_exchange gX4_letAhead_X4_exchange rfl ⟨Nat.le_of_ble_eq_true rfl, Nat.le_of_ble_eq_true rfl⟩ (kX4_exchange l D cI cC cS h ad (xls σ p i) σ ς (rcB β σ (q 5)) τ (rcQ q) p i (by omega) (by omega) _) (q0 := 0) rfl rfl rfl rfl hl (Nat.le_of_ble_eq_true rfl) dX4_letAhead_25 ⟨Nat.le_refl 0, Nat.le_refl 0⟩) (fun H locs w => ?_)
          refine q_iinc (lv' := [(2, .int (jj (i + 1))), (0, .ref h), (1, .int (jj p))]) C hl dX4_letAhead_28 2 rfl (by decide) rfl (fun ls hl => ?_)
          refine q_goto (tgt := 16) C dX4_letAhead_31 (by decide) ?_
          exact ih16 (i + 1) (by omega) (by omega) (by omega) _ _ (by rw [← xls_s σ p hi0] at w; exact w) ls (lv_sub hl [1, 2, 0] rfl)
    exact loop16 _ 0 (by omega) (by omega) (Nat.lt_succ_self _) _ _ w ls (lv_sub hl [1, 2, 0] rfl)
  · have c1 := c1
    refine q_iconst C dX4_letAhead_8 ?_
    exact q_iret C w dX4_letAhead_9 (by unfold ltu; (repeat' split) <;> omega) (by have hu : ltu σ p = -1 := (by unfold ltu; (repeat' split) <;> omega); unfold ltv; rw [hu, if_neg (by omega), if_neg (by omega), if_neg (by omega), if_neg (by omega)])

def rX4_swap : Room := { frames := 4, cells := 0, slots := 0, locals := 88 }
theorem fX4_swap : Fc yX4_swap wsX4_swap rX4_swap cX4_swap 2 (some .int) 1 := ⟨⟨_, rfl⟩, rfl, rfl, by decide +kernel, by decide +kernel, by decide +kernel⟩
set_option maxHeartbeats 4000000 in
set_option maxRecDepth 10000 in
theorem kX4_swap (l : Launch) (D : va_G) (cI cC cS : ClassId) (h : Nat) (ad : Nat → Nat) (σ α ς β τ q : Int → Int) (p : Int) (bY : Iv σ) (bk : 0 ≤ q 5 ∧ q 5 ≤ 4) (z_p : -2147483648 ≤ p ∧ p ≤ 2147483647) (bu : -13 ≤ swu σ p ∧ swu σ p ≤ 5) : Ki l yX4_swap wsX4_swap rX4_swap D (tz cI cC cS) [.ref h, .int (jj p)] (mW cI h ad σ α ς β τ q) (swu σ p) (mW cI h ad (swv σ p) σ ς (if 0 ≤ swu σ p then rcB β σ (q 5) else β) τ (if 0 ≤ swu σ p then rcQ q else q)) := by
  obtain ⟨bW, bE, bP, bc, bN, bU, b1, b9, b10, bv, bf⟩ := bY
  have hn := bW.1
  have hn2 := bW.2.1
  have hy := why_b σ p
  refine q_entry (cc := cX4_swap) (nL := 2) (ret := (some .int)) (by decide) ⟨_, rfl⟩ (Nat.le_of_ble_eq_true rfl) ?_
  intro A pr en s m args below meth c C hin w ls hl
  have w := w
  have hl : lv_has ls 2 [(0, .ref h), (1, .int (jj p))] := hl
  refine q_aload_n C hl dX4_swap_0 rfl 0 rfl ?_
  refine q_runv C w fr_all (q_V (As := []) (rest := []) C w fr_all fX4_looks gX4_swap_X4_looks rfl ⟨Nat.le_of_ble_eq_true rfl, Nat.le_of_ble_eq_true rfl⟩ (kX4_looks l D cI cC cS h ad σ α ς β τ q   _) (q0 := 0) rfl rfl rfl rfl hl (Nat.le_of_ble_eq_true rfl) dX4_swap_1 ⟨Nat.le_refl 0, Nat.le_refl 0⟩) (fun H locs w => ?_)
  refine q_aload_n C hl dX4_swap_4 rfl 0 rfl ?_
  refine q_aload_n C hl dX4_swap_5 rfl 0 rfl ?_
  refine q_iload_n C hl dX4_swap_6 rfl 1 rfl ?_
  refine q_runi C w fr_all (q_V (As := [.int (jj p)]) (rest := [.ref h]) C w fr_all fX4_swaps gX4_swap_X4_swaps rfl ⟨Nat.le_of_ble_eq_true rfl, Nat.le_of_ble_eq_true rfl⟩ (kX4_swaps l D cI cC cS h ad σ σ ς β τ q p ⟨by omega, by omega⟩ bW bE _) (q0 := 0) rfl rfl rfl rfl hl (Nat.le_of_ble_eq_true rfl) dX4_swap_7 ⟨Nat.le_refl 0, Nat.le_refl 0⟩) (fun H locs w => ?_)
  refine q_runi C w fr_all (q_V (As := [.int (jj (swu σ p))]) (rest := []) C w fr_all fX4_acted gX4_swap_X4_acted rfl ⟨Nat.le_of_ble_eq_true rfl, Nat.le_of_ble_eq_true rfl⟩ (kX4_acted l D cI cC cS h ad (swv σ p) σ ς β τ q (swu σ p) ⟨by omega, by omega⟩ (by omega) _) (q0 := 0) rfl rfl rfl rfl hl (Nat.le_of_ble_eq_true rfl) dX4_swap_10 ⟨Nat.le_refl 0, Nat.le_refl 0⟩) (fun H locs w => ?_)
  exact q_iret C w dX4_swap_13 (by first | rfl | omega) rfl

def rX4_isGust : Room := { frames := 1, cells := 0, slots := 0, locals := 22 }
theorem fX4_isGust : Fc yX4_isGust wsX4_isGust rX4_isGust cX4_isGust 2 (some .boolean) 2 := ⟨⟨_, rfl⟩, rfl, rfl, by decide +kernel, by decide +kernel, by decide +kernel⟩
set_option maxHeartbeats 4000000 in
set_option maxRecDepth 10000 in
theorem kX4_isGust (l : Launch) (D : va_G) (cI cC cS : ClassId) (d side : Int) (z_d : -2147483648 ≤ d ∧ d ≤ 2147483647) (z_side : -2147483648 ≤ side ∧ side ≤ 2147483647) : Ki l yX4_isGust wsX4_isGust rX4_isGust D (tz cI cC cS) [.int (jj d), .int (jj side)] ([]) (bI (gst d side)) ([]) := by
  refine q_entry (cc := cX4_isGust) (nL := 2) (ret := (some .boolean)) (by decide) ⟨_, rfl⟩ (Nat.le_of_ble_eq_true rfl) ?_
  intro A pr en s m args below meth c C hin w ls hl
  have w := w
  have hl : lv_has ls 2 [(0, .int (jj d)), (1, .int (jj side))] := hl
  refine q_iload_n C hl dX4_isGust_0 rfl 0 rfl ?_
  refine q_iconst C dX4_isGust_1 ?_
  refine q_bipush C dX4_isGust_2 (by decide) ?_
  refine q_runi C w fr_nil (q_S (As := [.int (jj d), .int (jj 1), .int (jj 99)]) (rest := []) C w fr_nil fX4_in gX4_isGust_X4_in ⟨Nat.le_of_ble_eq_true rfl, Nat.le_of_ble_eq_true rfl⟩ (kX4_in l D cI cC cS d 1 99 ⟨by omega, by omega⟩ ⟨by omega, by omega⟩ ⟨by omega, by omega⟩ _) rfl rfl hl (Nat.le_of_ble_eq_true rfl) dX4_isGust_4 ⟨Nat.le_refl 0, Nat.le_refl 0⟩) (fun H locs w => ?_)
  refine q_ifz_eq (tgt := 23) C dX4_isGust_7 (by decide) (fun c1 => ?_) (fun c1 => ?_)
  · have c1 := c1
    refine q_iconst C dX4_isGust_23 ?_
    exact q_zret C w dX4_isGust_24 (by first | exact (bI_t (by omega)).symm | exact (bI_f (by omega)).symm) rfl
  · have c1 := c1
    refine q_iload_n C hl dX4_isGust_10 rfl 1 rfl ?_
    refine q_iconst C dX4_isGust_11 ?_
    refine q_iconst C dX4_isGust_12 ?_
    refine q_runi C w fr_nil (q_S (As := [.int (jj side), .int (jj 0), .int (jj 2)]) (rest := []) C w fr_nil fX4_in gX4_isGust_X4_in ⟨Nat.le_of_ble_eq_true rfl, Nat.le_of_ble_eq_true rfl⟩ (kX4_in l D cI cC cS side 0 2 ⟨by omega, by omega⟩ ⟨by omega, by omega⟩ ⟨by omega, by omega⟩ _) rfl rfl hl (Nat.le_of_ble_eq_true rfl) dX4_isGust_13 ⟨Nat.le_refl 0, Nat.le_refl 0⟩) (fun H locs w => ?_)
    refine q_ifz_eq (tgt := 23) C dX4_isGust_16 (by decide) (fun c2 => ?_) (fun c2 => ?_)
    · have c2 := c2
      refine q_iconst C dX4_isGust_23 ?_
      exact q_zret C w dX4_isGust_24 (by first | exact (bI_t (by omega)).symm | exact (bI_f (by omega)).symm) rfl
    · have c2 := c2
      refine q_iconst C dX4_isGust_19 ?_
      refine q_goto (tgt := 24) C dX4_isGust_20 (by decide) ?_
      exact q_zret C w dX4_isGust_24 (by first | exact (bI_t (by omega)).symm | exact (bI_f (by omega)).symm) rfl

def rX4_gust : Room := { frames := 8, cells := 0, slots := 0, locals := 181 }
theorem fX4_gust : Fc yX4_gust wsX4_gust rX4_gust cX4_gust 3 (some .int) 2 := ⟨⟨_, rfl⟩, rfl, rfl, by decide +kernel, by decide +kernel, by decide +kernel⟩
set_option maxHeartbeats 4000000 in
set_option maxRecDepth 10000 in
theorem kX4_gust (l : Launch) (D : va_G) (cI cC cS : ClassId) (h : Nat) (ad : Nat → Nat) (σ α ς β τ q : Int → Int) (d side : Int) (bY : Iv σ) (bk : 0 ≤ q 5 ∧ q 5 ≤ 4) (z_d : -2147483648 ≤ d ∧ d ≤ 2147483647) (z_side : -2147483648 ≤ side ∧ side ≤ 2147483647) (bu : -5 ≤ gur σ d side ∧ gur σ d side ≤ 16) : Ki l yX4_gust wsX4_gust rX4_gust D (tz cI cC cS) [.ref h, .int (jj d), .int (jj side)] (mW cI h ad σ α ς β τ q) (guu σ d side) (mW cI h ad (guv σ d side) σ ς (if 0 ≤ guu σ d side then rcB β σ (q 5) else β) τ (if 0 ≤ guu σ d side then rcQ q else q)) := by
  obtain ⟨bW, bE, bP, bc, bN, bU, b1, b9, b10, bv, bf⟩ := bY
  have hn := bW.1
  have hn2 := bW.2.1
  refine q_entry (cc := cX4_gust) (nL := 3) (ret := (some .int)) (by decide) ⟨_, rfl⟩ (Nat.le_of_ble_eq_true rfl) ?_
  intro A pr en s m args below meth c C hin w ls hl
  have w := w
  have hl : lv_has ls 3 [(0, .ref h), (1, .int (jj d)), (2, .int (jj side))] := hl
  refine q_aload_n C hl dX4_gust_0 rfl 0 rfl ?_
  refine q_runv C w fr_all (q_V (As := []) (rest := []) C w fr_all fX4_looks gX4_gust_X4_looks rfl ⟨Nat.le_of_ble_eq_true rfl, Nat.le_of_ble_eq_true rfl⟩ (kX4_looks l D cI cC cS h ad σ α ς β τ q   _) (q0 := 0) rfl rfl rfl rfl hl (Nat.le_of_ble_eq_true rfl) dX4_gust_1 ⟨Nat.le_refl 0, Nat.le_refl 0⟩) (fun H locs w => ?_)
  refine q_iload_n C hl dX4_gust_4 rfl 1 rfl ?_
  refine q_iload_n C hl dX4_gust_5 rfl 2 rfl ?_
  refine q_runi C w fr_nil (q_S (As := [.int (jj d), .int (jj side)]) (rest := []) C w fr_nil fX4_isGust gX4_gust_X4_isGust ⟨Nat.le_of_ble_eq_true rfl, Nat.le_of_ble_eq_true rfl⟩ (kX4_isGust l D cI cC cS d side (by omega) (by omega) _) rfl rfl hl (Nat.le_of_ble_eq_true rfl) dX4_gust_6 ⟨Nat.le_refl 0, Nat.le_refl 0⟩) (fun H locs w => ?_)
  refine q_ifz_eq (tgt := 25) C dX4_gust_9 (by decide) (fun c1 => ?_) (fun c1 => ?_)
  · have c1 := c1
    refine q_bipush C dX4_gust_25 (by decide) ?_
    exact q_iret C w dX4_gust_27 (by unfold guu; (repeat' split) <;> omega) (by have hu : guu σ d side = -2 := if_neg (by omega); have hv : guv σ d side = σ := if_neg (by omega); rw [hu, hv, if_neg (by omega), if_neg (by omega)])
  · have c1 := c1
    refine q_aload_n C hl dX4_gust_12 rfl 0 rfl ?_
    refine q_aload_n C hl dX4_gust_13 rfl 0 rfl ?_
    refine q_iload_n C hl dX4_gust_14 rfl 1 rfl ?_
    refine q_iload_n C hl dX4_gust_15 rfl 2 rfl ?_
    refine q_runi C w fr_all (q_V (As := [.int (jj d), .int (jj side)]) (rest := [.ref h]) C w fr_all fX4_gusts gX4_gust_X4_gusts rfl ⟨Nat.le_of_ble_eq_true rfl, Nat.le_of_ble_eq_true rfl⟩ (kX4_gusts l D cI cC cS h ad σ σ ς β τ q d side bW bE bP (by omega) (by omega) _) (q0 := 0) rfl rfl rfl rfl hl (Nat.le_of_ble_eq_true rfl) dX4_gust_16 ⟨Nat.le_refl 0, Nat.le_refl 0⟩) (fun H locs w => ?_)
    refine q_runi C w fr_all (q_V (As := [.int (jj (gur σ d side))]) (rest := []) C w fr_all fX4_acted gX4_gust_X4_acted rfl ⟨Nat.le_of_ble_eq_true rfl, Nat.le_of_ble_eq_true rfl⟩ (kX4_acted l D cI cC cS h ad (gus σ d side) σ ς β τ q (gur σ d side) ⟨by omega, by omega⟩ (by omega) _) (q0 := 0) rfl rfl rfl rfl hl (Nat.le_of_ble_eq_true rfl) dX4_gust_19 ⟨Nat.le_refl 0, Nat.le_refl 0⟩) (fun H locs w => ?_)
    refine q_goto (tgt := 27) C dX4_gust_22 (by decide) ?_
    exact q_iret C w dX4_gust_27 (by unfold guu; (repeat' split) <;> omega) (by have hu : guu σ d side = gur σ d side := if_pos (by omega); have hv : guv σ d side = gus σ d side := if_pos (by omega); rw [hu, hv])

def rX4_pass : Room := { frames := 3, cells := 0, slots := 0, locals := 67 }
theorem fX4_pass : Fc yX4_pass wsX4_pass rX4_pass cX4_pass 2 (some .int) 1 := ⟨⟨_, rfl⟩, rfl, rfl, by decide +kernel, by decide +kernel, by decide +kernel⟩
set_option maxHeartbeats 4000000 in
set_option maxRecDepth 10000 in
theorem kX4_pass (l : Launch) (D : va_G) (cI cC cS : ClassId) (h : Nat) (ad : Nat → Nat) (σ α ς β τ q : Int → Int) (mi : Int) (bY : Iv σ) (bk : 0 ≤ q 5 ∧ q 5 ≤ 4) (z_mi : -2147483648 ≤ mi ∧ mi ≤ 2147483647) : Ki l yX4_pass wsX4_pass rX4_pass D (tz cI cC cS) [.ref h, .int (jj mi)] (mW cI h ad σ α ς β τ q) (pu2 σ mi) (mW cI h ad (pv2 σ mi) σ ς (if 0 ≤ pu2 σ mi then rcB β σ (q 5) else β) τ (if 0 ≤ pu2 σ mi then rcQ q else q)) := by
  obtain ⟨bW, bE, bP, bc, bN, bU, b1, b9, b10, bv, bf⟩ := bY
  have hn := bW.1
  have hn2 := bW.2.1
  have hb : -3 ≤ pau σ mi ∧ pau σ mi ≤ 16 := by have := drn_b σ mi bW.1; unfold pau; split <;> omega
  refine q_entry (cc := cX4_pass) (nL := 2) (ret := (some .int)) (by decide) ⟨_, rfl⟩ (Nat.le_of_ble_eq_true rfl) ?_
  intro A pr en s m args below meth c C hin w ls hl
  have w := w
  have hl : lv_has ls 2 [(0, .ref h), (1, .int (jj mi))] := hl
  refine q_aload_n C hl dX4_pass_0 rfl 0 rfl ?_
  refine q_runv C w fr_all (q_V (As := []) (rest := []) C w fr_all fX4_looks gX4_pass_X4_looks rfl ⟨Nat.le_of_ble_eq_true rfl, Nat.le_of_ble_eq_true rfl⟩ (kX4_looks l D cI cC cS h ad σ α ς β τ q   _) (q0 := 0) rfl rfl rfl rfl hl (Nat.le_of_ble_eq_true rfl) dX4_pass_1 ⟨Nat.le_refl 0, Nat.le_refl 0⟩) (fun H locs w => ?_)
  refine q_iload_n C hl dX4_pass_4 rfl 1 rfl ?_
  refine q_iconst C dX4_pass_5 ?_
  refine q_bipush C dX4_pass_6 (by decide) ?_
  refine q_runi C w fr_nil (q_S (As := [.int (jj mi), .int (jj 1), .int (jj 99)]) (rest := []) C w fr_nil fX4_in gX4_pass_X4_in ⟨Nat.le_of_ble_eq_true rfl, Nat.le_of_ble_eq_true rfl⟩ (kX4_in l D cI cC cS mi 1 99 ⟨by omega, by omega⟩ ⟨by omega, by omega⟩ ⟨by omega, by omega⟩ _) rfl rfl hl (Nat.le_of_ble_eq_true rfl) dX4_pass_8 ⟨Nat.le_refl 0, Nat.le_refl 0⟩) (fun H locs w => ?_)
  refine q_ifz_eq (tgt := 26) C dX4_pass_11 (by decide) (fun c1 => ?_) (fun c1 => ?_)
  · have c1 := c1
    refine q_bipush C dX4_pass_26 (by decide) ?_
    exact q_iret C w dX4_pass_28 (by unfold pu2; (repeat' split) <;> omega) (by have hu : pu2 σ mi = -2 := if_neg (by omega); have hv : pv2 σ mi = σ := if_neg (by omega); rw [hu, hv, if_neg (by omega), if_neg (by omega)])
  · have c1 := c1
    refine q_aload_n C hl dX4_pass_14 rfl 0 rfl ?_
    refine q_aload_n C hl dX4_pass_15 rfl 0 rfl ?_
    refine q_iload_n C hl dX4_pass_16 rfl 1 rfl ?_
    refine q_runi C w fr_all (q_V (As := [.int (jj mi)]) (rest := [.ref h]) C w fr_all fX4_passes gX4_pass_X4_passes rfl ⟨Nat.le_of_ble_eq_true rfl, Nat.le_of_ble_eq_true rfl⟩ (kX4_passes l D cI cC cS h ad σ σ ς β τ q mi (by omega) bE (by omega) (by omega) (by omega) _) (q0 := 0) rfl rfl rfl rfl hl (Nat.le_of_ble_eq_true rfl) dX4_pass_17 ⟨Nat.le_refl 0, Nat.le_refl 0⟩) (fun H locs w => ?_)
    refine q_runi C w fr_all (q_V (As := [.int (jj (pau σ mi))]) (rest := []) C w fr_all fX4_acted gX4_pass_X4_acted rfl ⟨Nat.le_of_ble_eq_true rfl, Nat.le_of_ble_eq_true rfl⟩ (kX4_acted l D cI cC cS h ad (pas σ mi) σ ς β τ q (pau σ mi) ⟨by omega, by omega⟩ (by omega) _) (q0 := 0) rfl rfl rfl rfl hl (Nat.le_of_ble_eq_true rfl) dX4_pass_20 ⟨Nat.le_refl 0, Nat.le_refl 0⟩) (fun H locs w => ?_)
    refine q_goto (tgt := 28) C dX4_pass_23 (by decide) ?_
    exact q_iret C w dX4_pass_28 (by unfold pu2; (repeat' split) <;> omega) (by have hu : pu2 σ mi = pau σ mi := if_pos (by omega); have hv : pv2 σ mi = pas σ mi := if_pos (by omega); rw [hu, hv])

def rX4_serve : Room := { frames := 5, cells := 0, slots := 0, locals := 109 }
theorem fX4_serve : Fc yX4_serve wsX4_serve rX4_serve cX4_serve 1 (some .int) 0 := ⟨⟨_, rfl⟩, rfl, rfl, by decide +kernel, by decide +kernel, by decide +kernel⟩
set_option maxHeartbeats 4000000 in
set_option maxRecDepth 10000 in
theorem kX4_serve (l : Launch) (D : va_G) (cI cC cS : ClassId) (h : Nat) (ad : Nat → Nat) (σ α ς β τ q : Int → Int)  (bY : Iv σ) (bk : 0 ≤ q 5 ∧ q 5 ≤ 4) (bu : -5 ≤ seu σ ∧ seu σ ≤ 9999) : Ki l yX4_serve wsX4_serve rX4_serve D (tz cI cC cS) [.ref h] (mW cI h ad σ α ς β τ q) (seu σ) (mW cI h ad (sev σ) σ ς (if 0 ≤ seu σ then rcB β σ (q 5) else β) τ (if 0 ≤ seu σ then rcQ q else q)) := by
  obtain ⟨bW, bE, bP, bc, bN, bU, b1, b9, b10, bv, bf⟩ := bY
  have hn := bW.1
  have hn2 := bW.2.1
  refine q_entry (cc := cX4_serve) (nL := 1) (ret := (some .int)) (by decide) ⟨_, rfl⟩ (Nat.le_of_ble_eq_true rfl) ?_
  intro A pr en s m args below meth c C hin w ls hl
  have w := w
  have hl : lv_has ls 1 [(0, .ref h)] := hl
  refine q_aload_n C hl dX4_serve_0 rfl 0 rfl ?_
  refine q_runv C w fr_all (q_V (As := []) (rest := []) C w fr_all fX4_looks gX4_serve_X4_looks rfl ⟨Nat.le_of_ble_eq_true rfl, Nat.le_of_ble_eq_true rfl⟩ (kX4_looks l D cI cC cS h ad σ α ς β τ q   _) (q0 := 0) rfl rfl rfl rfl hl (Nat.le_of_ble_eq_true rfl) dX4_serve_1 ⟨Nat.le_refl 0, Nat.le_refl 0⟩) (fun H locs w => ?_)
  refine q_aload_n C hl dX4_serve_4 rfl 0 rfl ?_
  refine q_aload_n C hl dX4_serve_5 rfl 0 rfl ?_
  refine q_runi C w fr_all (q_V (As := []) (rest := [.ref h]) C w fr_all fX4_serves gX4_serve_X4_serves rfl ⟨Nat.le_of_ble_eq_true rfl, Nat.le_of_ble_eq_true rfl⟩ (kX4_serves l D cI cC cS h ad σ σ ς β τ q  (by omega) (by omega) (by omega) bE bc _) (q0 := 0) rfl rfl rfl rfl hl (Nat.le_of_ble_eq_true rfl) dX4_serve_6 ⟨Nat.le_refl 0, Nat.le_refl 0⟩) (fun H locs w => ?_)
  refine q_runi C w fr_all (q_V (As := [.int (jj (seu σ))]) (rest := []) C w fr_all fX4_acted gX4_serve_X4_acted rfl ⟨Nat.le_of_ble_eq_true rfl, Nat.le_of_ble_eq_true rfl⟩ (kX4_acted l D cI cC cS h ad (sev σ) σ ς β τ q (seu σ) ⟨by omega, by omega⟩ (by omega) _) (q0 := 0) rfl rfl rfl rfl hl (Nat.le_of_ble_eq_true rfl) dX4_serve_9 ⟨Nat.le_refl 0, Nat.le_refl 0⟩) (fun H locs w => ?_)
  exact q_iret C w dX4_serve_12 (by first | rfl | omega) rfl

def rX4_type : Room := { frames := 0, cells := 0, slots := 0, locals := 0 }
theorem fX4_type : Fc yX4_type wsX4_type rX4_type cX4_type 2 (some .int) 1 := ⟨⟨_, rfl⟩, rfl, rfl, by decide +kernel, by decide +kernel, by decide +kernel⟩
set_option maxHeartbeats 4000000 in
set_option maxRecDepth 10000 in
theorem kX4_type (l : Launch) (D : va_G) (cI cC cS : ClassId) (h : Nat) (ad : Nat → Nat) (σ α ς β τ q : Int → Int) (ch : Int) (b7 : 0 ≤ q 7 ∧ q 7 ≤ 60) : Ki l yX4_type wsX4_type rX4_type D (tz cI cC cS) [.ref h, .int (jj ch)] (mW cI h ad σ α ς β τ q) (if q 7 = 60 then -3 else q 7 + 1) (mW cI h ad σ α ς β (if q 7 = 60 then τ else up τ (q 7) ch) (if q 7 = 60 then q else up q 7 (q 7 + 1))) := by
  refine q_entry (cc := cX4_type) (nL := 2) (ret := (some .int)) (by decide) ⟨_, rfl⟩ (Nat.le_of_ble_eq_true rfl) ?_
  intro A pr en s m args below meth c C hin w ls hl
  have w := w
  have hl : lv_has ls 2 [(0, .ref h), (1, .int (jj ch))] := hl
  refine q_aload_n C hl dX4_type_0 rfl 0 rfl ?_
  refine q_getM C w.1 (fun w h => List.mem_cons_of_mem _ (List.mem_append_right _ h)) 7 (by decide) (List.mem_of_getElem? (i := 1) rfl) rfl dX4_type_1 ?_
  refine q_bipush C dX4_type_4 (by decide) ?_
  refine q_icmp_ne (tgt := 12) C dX4_type_6 (by decide) ⟨by omega, by omega⟩ ⟨by omega, by omega⟩ (fun c1 => ?_) (fun c1 => ?_)
  · have c1 := c1
    refine q_aload_n C hl dX4_type_12 rfl 0 rfl ?_
    refine q_getM C w.1 (fun w h => List.mem_cons_of_mem _ (List.mem_append_right _ h)) 6 (by decide) (List.mem_of_getElem? (i := 2) rfl) rfl dX4_type_13 ?_
    refine q_aload_n C hl dX4_type_16 rfl 0 rfl ?_
    refine q_getM C w.1 (fun w h => List.mem_cons_of_mem _ (List.mem_append_right _ h)) 7 (by decide) (List.mem_of_getElem? (i := 1) rfl) rfl dX4_type_17 ?_
    refine q_iload_n C hl dX4_type_20 rfl 1 rfl ?_
    refine q_iast (ws' := mW cI h ad σ α ς β (up τ (q 7) ch) q) (n := 60) (f := τ) C w 5 0 rfl rfl ⟨by omega, by omega, by omega⟩ dX4_type_21 rfl (fun H locs w => ?_)
    refine q_aload_n C hl dX4_type_22 rfl 0 rfl ?_
    refine q_dup C dX4_type_23 rfl ?_
    refine q_getM C w.1 (fun w h => List.mem_cons_of_mem _ (List.mem_append_right _ h)) 7 (by decide) (List.mem_of_getElem? (i := 1) rfl) rfl dX4_type_24 ?_
    refine q_iconst C dX4_type_27 ?_
    refine q_iadd C dX4_type_28 ?_
    refine q_putM C w (fun w h => List.mem_cons_of_mem _ (List.mem_append_right _ h)) 7 (by decide) (List.mem_of_getElem? (i := 1) rfl) rfl rfl rfl rfl dX4_type_29 (mP7 cI h ad _ _ _ _ _ _ _) (fun H locs w => ?_)
    refine q_aload_n C hl dX4_type_32 rfl 0 rfl ?_
    refine q_getM C w.1 (fun w h => List.mem_cons_of_mem _ (List.mem_append_right _ h)) 7 (by decide) (List.mem_of_getElem? (i := 1) rfl) rfl dX4_type_33 ?_
    exact q_iret C w dX4_type_36 (by rw [if_neg (by omega)]; exact up_s _ _ _) (by rw [if_neg (by omega), if_neg (by omega)])
  · have c1 := c1
    refine q_bipush C dX4_type_9 (by decide) ?_
    exact q_iret C w dX4_type_11 (by rw [if_pos (by omega)]) (by rw [if_pos (by omega), if_pos (by omega)])

def rX4_clearText : Room := { frames := 0, cells := 0, slots := 0, locals := 0 }
theorem fX4_clearText : Fc yX4_clearText wsX4_clearText rX4_clearText cX4_clearText 2 (some .int) 0 := ⟨⟨_, rfl⟩, rfl, rfl, by decide +kernel, by decide +kernel, by decide +kernel⟩
set_option maxHeartbeats 4000000 in
set_option maxRecDepth 10000 in
theorem kX4_clearText (l : Launch) (D : va_G) (cI cC cS : ClassId) (h : Nat) (ad : Nat → Nat) (σ α ς β τ q : Int → Int)   : Ki l yX4_clearText wsX4_clearText rX4_clearText D (tz cI cC cS) [.ref h] (mW cI h ad σ α ς β τ q) (q 7) (mW cI h ad σ α ς β τ (up q 7 0)) := by
  refine q_entry (cc := cX4_clearText) (nL := 2) (ret := (some .int)) (by decide) ⟨_, rfl⟩ (Nat.le_of_ble_eq_true rfl) ?_
  intro A pr en s m args below meth c C hin w ls hl
  have w := w
  have hl : lv_has ls 2 [(0, .ref h)] := hl
  refine q_aload_n C hl dX4_clearText_0 rfl 0 rfl ?_
  refine q_getM C w.1 (fun w h => List.mem_cons_of_mem _ (List.mem_append_right _ h)) 7 (by decide) (List.mem_of_getElem? (i := 1) rfl) rfl dX4_clearText_1 ?_
  refine q_istore_n (lv' := [(1, .int (jj (q 7))), (0, .ref h)]) C hl dX4_clearText_4 rfl (by decide) rfl (fun ls hl => ?_)
  refine q_aload_n C hl dX4_clearText_5 rfl 1 rfl ?_
  refine q_iconst C dX4_clearText_6 ?_
  refine q_putM C w (fun w h => List.mem_cons_of_mem _ (List.mem_append_right _ h)) 7 (by decide) (List.mem_of_getElem? (i := 1) rfl) rfl rfl rfl rfl dX4_clearText_7 (mP7 cI h ad _ _ _ _ _ _ _) (fun H locs w => ?_)
  refine q_iload_n C hl dX4_clearText_10 rfl 0 rfl ?_
  exact q_iret C w dX4_clearText_11 (by first | rfl | omega) rfl

def rX4_stopped : Room := { frames := 0, cells := 0, slots := 0, locals := 0 }
theorem fX4_stopped : Fc yX4_stopped wsX4_stopped rX4_stopped cX4_stopped 2 (some .int) 1 := ⟨⟨_, rfl⟩, rfl, rfl, by decide +kernel, by decide +kernel, by decide +kernel⟩
set_option maxHeartbeats 4000000 in
set_option maxRecDepth 10000 in
theorem kX4_stopped (l : Launch) (D : va_G) (cI cC cS : ClassId) (h : Nat) (ad : Nat → Nat) (σ α ς β τ q : Int → Int) (x : Int) (z_x : -2147483648 ≤ x ∧ x ≤ 2147483647) : Ki l yX4_stopped wsX4_stopped rX4_stopped D (tz cI cC cS) [.ref h, .int (jj x)] (mW cI h ad σ α ς β τ q) (if x = 0 then q 8 else if x = 1 then q 9 else -2) (mW cI h ad σ α ς β τ q) := by
  refine q_entry (cc := cX4_stopped) (nL := 2) (ret := (some .int)) (by decide) ⟨_, rfl⟩ (Nat.le_of_ble_eq_true rfl) ?_
  intro A pr en s m args below meth c C hin w ls hl
  have w := w
  have hl : lv_has ls 2 [(0, .ref h), (1, .int (jj x))] := hl
  refine q_iload_n C hl dX4_stopped_0 rfl 1 rfl ?_
  refine q_if_ne (tgt := 11) C dX4_stopped_1 (by decide) ⟨by omega, by omega⟩ (fun c1 => ?_) (fun c1 => ?_)
  · have c1 := c1
    refine q_iload_n C hl dX4_stopped_11 rfl 1 rfl ?_
    refine q_iconst C dX4_stopped_12 ?_
    refine q_icmp_ne (tgt := 23) C dX4_stopped_13 (by decide) ⟨by omega, by omega⟩ ⟨by omega, by omega⟩ (fun c2 => ?_) (fun c2 => ?_)
    · have c2 := c2
      refine q_bipush C dX4_stopped_23 (by decide) ?_
      exact q_iret C w dX4_stopped_25 (by (repeat' split) <;> omega) rfl
    · have c2 := c2
      refine q_aload_n C hl dX4_stopped_16 rfl 0 rfl ?_
      refine q_getM C w.1 (fun w h => List.mem_cons_of_mem _ (List.mem_append_right _ h)) 9 (by decide) (List.mem_of_getElem? (i := 2) rfl) rfl dX4_stopped_17 ?_
      refine q_goto (tgt := 25) C dX4_stopped_20 (by decide) ?_
      exact q_iret C w dX4_stopped_25 (by (repeat' split) <;> omega) rfl
  · have c1 := c1
    refine q_aload_n C hl dX4_stopped_4 rfl 0 rfl ?_
    refine q_getM C w.1 (fun w h => List.mem_cons_of_mem _ (List.mem_append_right _ h)) 8 (by decide) (List.mem_of_getElem? (i := 1) rfl) rfl dX4_stopped_5 ?_
    refine q_goto (tgt := 25) C dX4_stopped_8 (by decide) ?_
    exact q_iret C w dX4_stopped_25 (by (repeat' split) <;> omega) rfl

def rX4_undo : Room := { frames := 0, cells := 0, slots := 0, locals := 0 }
theorem fX4_undo : Fc yX4_undo wsX4_undo rX4_undo cX4_undo 2 (some .int) 0 := ⟨⟨_, rfl⟩, rfl, rfl, by decide +kernel, by decide +kernel, by decide +kernel⟩
set_option maxHeartbeats 4000000 in
set_option maxRecDepth 10000 in
theorem kX4_undo (l : Launch) (D : va_G) (cI cC cS : ClassId) (h : Nat) (ad : Nat → Nat) (σ α ς β τ q : Int → Int)  (bk : 0 ≤ q 5 ∧ q 5 ≤ 4) : Ki l yX4_undo wsX4_undo rX4_undo D (tz cI cC cS) [.ref h] (mW cI h ad σ α ς β τ q) (if q 5 = 0 then -5 else q 5 - 1) (mW cI h ad (if q 5 = 0 then σ else hst β (q 5 - 1)) α ς β τ (if q 5 = 0 then q else up q 5 (q 5 - 1))) := by
  have e5 : up q 5 (q 5 - 1) 5 = q 5 - 1 := up_s _ _ _
  refine q_entry (cc := cX4_undo) (nL := 2) (ret := (some .int)) (by decide) ⟨_, rfl⟩ (Nat.le_of_ble_eq_true rfl) ?_
  intro A pr en s m args below meth c C hin w ls hl
  have w := w
  have hl : lv_has ls 2 [(0, .ref h)] := hl
  refine q_aload_n C hl dX4_undo_0 rfl 0 rfl ?_
  refine q_getM C w.1 (fun w h => List.mem_cons_of_mem _ (List.mem_append_right _ h)) 5 (by decide) (List.mem_of_getElem? (i := 1) rfl) rfl dX4_undo_1 ?_
  refine q_if_ne (tgt := 10) C dX4_undo_4 (by decide) ⟨by omega, by omega⟩ (fun c1 => ?_) (fun c1 => ?_)
  · have c1 := c1
    refine q_aload_n C hl dX4_undo_10 rfl 0 rfl ?_
    refine q_dup C dX4_undo_11 rfl ?_
    refine q_getM C w.1 (fun w h => List.mem_cons_of_mem _ (List.mem_append_right _ h)) 5 (by decide) (List.mem_of_getElem? (i := 1) rfl) rfl dX4_undo_12 ?_
    refine q_iconst C dX4_undo_15 ?_
    refine q_isub C dX4_undo_16 ?_
    refine q_putM C w (fun w h => List.mem_cons_of_mem _ (List.mem_append_right _ h)) 5 (by decide) (List.mem_of_getElem? (i := 1) rfl) rfl rfl rfl rfl dX4_undo_17 (mP5 cI h ad _ _ _ _ _ _ _) (fun H locs w => ?_)
    refine q_iconst C dX4_undo_20 ?_
    refine q_istore_n (lv' := [(1, .int (jj 0)), (0, .ref h)]) C hl dX4_undo_21 rfl (by decide) rfl (fun ls hl => ?_)
    have loop22 : ∀ (n22 : Nat) (i : Int), (0 ≤ i) → (i ≤ 109) → (109 - i).toNat < n22 → ∀ (H : Heap) (locs : List Loc), Wd D A s (mW cI h ad (lk (hst β (q 5 - 1)) σ i) α ς β τ (up q 5 ((q 5) - 1))) H locs → ∀ ls : Array Slot, lv_has ls 2 [(0, .ref h), (1, .int (jj i))] → W pr l en rX4_undo s m args below meth c H locs 0 0 (MQ below (Qi D (tz cI cC cS) (if q 5 = 0 then -5 else q 5 - 1) (mW cI h ad (if q 5 = 0 then σ else hst β (q 5 - 1)) α ς β τ (if q 5 = 0 then q else up q 5 (q 5 - 1))) A) args s 0 0 A) (F0 m 22 ls []) := by
      intro n22
      induction n22 with
      | zero => intro i hi0 hi1 hm; exact absurd hm (Nat.not_lt_zero _)
      | succ n22 ih22 =>
        intro i hi0 hi1 hm22 H locs w ls hl
        refine q_iload_n C hl dX4_undo_22 rfl 1 rfl ?_
        refine q_bipush C dX4_undo_23 (by decide) ?_
        refine q_icmp_ge (tgt := 54) C dX4_undo_25 (by decide) ⟨by omega, by omega⟩ ⟨by omega, by omega⟩ (fun c2 => ?_) (fun c2 => ?_)
        · have c2 := c2
          have w : Wd D A s (mW cI h ad (hst β (q 5 - 1)) α ς β τ (up q 5 (q 5 - 1))) H locs := wd_mcong (fun k h0 h1 => by unfold lk; rw [if_pos (by omega)]) (fun k _ _ => rfl) (fun k _ _ => rfl) w
          refine q_aload_n C hl dX4_undo_54 rfl 0 rfl ?_
          refine q_getM C w.1 (fun w h => List.mem_cons_of_mem _ (List.mem_append_right _ h)) 5 (by decide) (List.mem_of_getElem? (i := 1) rfl) rfl dX4_undo_55 ?_
          exact q_iret C w dX4_undo_58 (by rw [if_neg (by omega)]; exact e5) (by rw [if_neg (by omega), if_neg (by omega)])
        · have c2 := c2
          refine q_aload_n C hl dX4_undo_28 rfl 0 rfl ?_
          refine q_getM C w.1 (fun w h => List.mem_cons_of_mem _ (List.mem_append_right _ h)) 0 (by decide) (List.mem_of_getElem? (i := 2) rfl) rfl dX4_undo_29 ?_
          refine q_iload_n C hl dX4_undo_32 rfl 1 rfl ?_
          refine q_aload_n C hl dX4_undo_33 rfl 0 rfl ?_
          refine q_getM C w.1 (fun w h => List.mem_cons_of_mem _ (List.mem_append_right _ h)) 4 (by decide) (List.mem_of_getElem? (i := 3) rfl) rfl dX4_undo_34 ?_
          refine q_bipush C dX4_undo_37 (by decide) ?_
          refine q_aload_n C hl dX4_undo_39 rfl 0 rfl ?_
          refine q_getM C w.1 (fun w h => List.mem_cons_of_mem _ (List.mem_append_right _ h)) 5 (by decide) (List.mem_of_getElem? (i := 1) rfl) rfl dX4_undo_40 ?_
          refine q_imul C dX4_undo_43 ?_
          refine q_iload_n C hl dX4_undo_44 rfl 1 rfl ?_
          refine q_iadd C dX4_undo_45 ?_
          refine q_iald (n := 436) (f := β) C w.1 4 0 rfl rfl ⟨by omega, by omega, by omega⟩ dX4_undo_46 ?_
          refine q_Mst C w ⟨by omega, by omega⟩ dX4_undo_47 (fun H locs w => ?_)
          refine q_iinc (lv' := [(1, .int (jj (i + 1))), (0, .ref h)]) C hl dX4_undo_48 1 rfl (by decide) rfl (fun ls hl => ?_)
          refine q_goto (tgt := 22) C dX4_undo_51 (by decide) ?_
          exact ih22 (i + 1) (by omega) (by omega) (by omega) _ _ (by rw [← lk_s (hst β (q 5 - 1)) σ hi0, show hst β (q 5 - 1) i = β (109 * up q 5 (q 5 - 1) 5 + i) by rw [e5]; rfl]; exact w) ls (lv_sub hl [1, 0] rfl)
    exact loop22 _ 0 (by omega) (by omega) (Nat.lt_succ_self _) _ _ (by rw [lk_0]; exact w) ls (lv_sub hl [1, 0] rfl)
  · have c1 := c1
    refine q_bipush C dX4_undo_7 (by decide) ?_
    exact q_iret C w dX4_undo_9 (by rw [if_pos (by omega)]) (by rw [if_pos (by omega), if_pos (by omega)])

def rX4_keep : Room := { frames := 0, cells := 0, slots := 0, locals := 0 }
theorem fX4_keep : Fc yX4_keep wsX4_keep rX4_keep cX4_keep 2 (some .int) 0 := ⟨⟨_, rfl⟩, rfl, rfl, by decide +kernel, by decide +kernel, by decide +kernel⟩
set_option maxHeartbeats 4000000 in
set_option maxRecDepth 10000 in
theorem kX4_keep (l : Launch) (D : va_G) (cI cC cS : ClassId) (h : Nat) (ad : Nat → Nat) (σ α ς β τ q : Int → Int)   : Ki l yX4_keep wsX4_keep rX4_keep D (tz cI cC cS) [.ref h] (mW cI h ad σ α ς β τ q) (σ 0) (mW cI h ad σ α σ β τ (up q 3 1)) := by
  refine q_entry (cc := cX4_keep) (nL := 2) (ret := (some .int)) (by decide) ⟨_, rfl⟩ (Nat.le_of_ble_eq_true rfl) ?_
  intro A pr en s m args below meth c C hin w ls hl
  have w := w
  have hl : lv_has ls 2 [(0, .ref h)] := hl
  refine q_iconst C dX4_keep_0 ?_
  refine q_istore_n (lv' := [(1, .int (jj 0)), (0, .ref h)]) C hl dX4_keep_1 rfl (by decide) rfl (fun ls hl => ?_)
  have loop2 : ∀ (n2 : Nat) (i : Int), (0 ≤ i) → (i ≤ 109) → (109 - i).toNat < n2 → ∀ (H : Heap) (locs : List Loc), Wd D A s (mW cI h ad σ α (lk σ ς i) β τ q) H locs → ∀ ls : Array Slot, lv_has ls 2 [(0, .ref h), (1, .int (jj i))] → W pr l en rX4_keep s m args below meth c H locs 0 0 (MQ below (Qi D (tz cI cC cS) (σ 0) (mW cI h ad σ α σ β τ (up q 3 1)) A) args s 0 0 A) (F0 m 2 ls []) := by
    intro n2
    induction n2 with
    | zero => intro i hi0 hi1 hm; exact absurd hm (Nat.not_lt_zero _)
    | succ n2 ih2 =>
      intro i hi0 hi1 hm2 H locs w ls hl
      refine q_iload_n C hl dX4_keep_2 rfl 1 rfl ?_
      refine q_bipush C dX4_keep_3 (by decide) ?_
      refine q_icmp_ge (tgt := 26) C dX4_keep_5 (by decide) ⟨by omega, by omega⟩ ⟨by omega, by omega⟩ (fun c1 => ?_) (fun c1 => ?_)
      · have c1 := c1
        have w : Wd D A s (mW cI h ad σ α σ β τ q) H locs := wd_mcong (fun k _ _ => rfl) (fun k _ _ => rfl) (fun k h0 h1 => by unfold lk; rw [if_pos (by omega)]) w
        refine q_aload_n C hl dX4_keep_26 rfl 0 rfl ?_
        refine q_iconst C dX4_keep_27 ?_
        refine q_putM C w (fun w h => List.mem_cons_of_mem _ (List.mem_append_right _ h)) 3 (by decide) (List.mem_of_getElem? (i := 3) rfl) rfl rfl (nar_b (by omega)) rfl dX4_keep_28 (mP3 cI h ad _ _ _ _ _ _ _) (fun H locs w => ?_)
        refine q_aload_n C hl dX4_keep_31 rfl 0 rfl ?_
        refine q_getM C w.1 (fun w h => List.mem_cons_of_mem _ (List.mem_append_right _ h)) 0 (by decide) (List.mem_of_getElem? (i := 2) rfl) rfl dX4_keep_32 ?_
        refine q_iconst C dX4_keep_35 ?_
        refine q_Mld C w.1 ⟨by omega, by omega⟩ dX4_keep_36 ?_
        exact q_iret C w dX4_keep_37 (by first | rfl | omega) rfl
      · have c1 := c1
        refine q_aload_n C hl dX4_keep_8 rfl 0 rfl ?_
        refine q_getM C w.1 (fun w h => List.mem_cons_of_mem _ (List.mem_append_right _ h)) 2 (by decide) (List.mem_of_getElem? (i := 1) rfl) rfl dX4_keep_9 ?_
        refine q_iload_n C hl dX4_keep_12 rfl 1 rfl ?_
        refine q_aload_n C hl dX4_keep_13 rfl 0 rfl ?_
        refine q_getM C w.1 (fun w h => List.mem_cons_of_mem _ (List.mem_append_right _ h)) 0 (by decide) (List.mem_of_getElem? (i := 2) rfl) rfl dX4_keep_14 ?_
        refine q_iload_n C hl dX4_keep_17 rfl 1 rfl ?_
        refine q_Mld C w.1 ⟨by omega, by omega⟩ dX4_keep_18 ?_
        refine q_iast (ws' := mW cI h ad σ α (up (lk σ ς i) i (σ i)) β τ q) (n := 109) (f := lk σ ς i) C w 3 0 rfl rfl ⟨by omega, by omega, by omega⟩ dX4_keep_19 rfl (fun H locs w => ?_)
        refine q_iinc (lv' := [(1, .int (jj (i + 1))), (0, .ref h)]) C hl dX4_keep_20 1 rfl (by decide) rfl (fun ls hl => ?_)
        refine q_goto (tgt := 2) C dX4_keep_23 (by decide) ?_
        exact ih2 (i + 1) (by omega) (by omega) (by omega) _ _ (by rw [lk_s σ ς hi0] at w; exact w) ls (lv_sub hl [1, 0] rfl)
  exact loop2 _ 0 (by omega) (by omega) (Nat.lt_succ_self _) _ _ (by rw [lk_0]; exact w) ls (lv_sub hl [1, 0] rfl)

def rX4_restore : Room := { frames := 2, cells := 0, slots := 0, locals := 41 }
theorem fX4_restore : Fc yX4_restore wsX4_restore rX4_restore cX4_restore 2 (some .int) 0 := ⟨⟨_, rfl⟩, rfl, rfl, by decide +kernel, by decide +kernel, by decide +kernel⟩
set_option maxHeartbeats 4000000 in
set_option maxRecDepth 10000 in
theorem kX4_restore (l : Launch) (D : va_G) (cI cC cS : ClassId) (h : Nat) (ad : Nat → Nat) (σ α ς β τ q : Int → Int)  (bk : 0 ≤ q 5 ∧ q 5 ≤ 4) (b3 : 0 ≤ q 3 ∧ q 3 ≤ 1) : Ki l yX4_restore wsX4_restore rX4_restore D (tz cI cC cS) [.ref h] (mW cI h ad σ α ς β τ q) (if q 3 = 0 then -5 else ς 0) (mW cI h ad (if q 3 = 0 then σ else ς) (if q 3 = 0 then α else σ) ς (if q 3 = 0 then β else rcB β σ (q 5)) τ (if q 3 = 0 then q else rcQ q)) := by
  refine q_entry (cc := cX4_restore) (nL := 2) (ret := (some .int)) (by decide) ⟨_, rfl⟩ (Nat.le_of_ble_eq_true rfl) ?_
  intro A pr en s m args below meth c C hin w ls hl
  have w := w
  have hl : lv_has ls 2 [(0, .ref h)] := hl
  refine q_aload_n C hl dX4_restore_0 rfl 0 rfl ?_
  refine q_getM C w.1 (fun w h => List.mem_cons_of_mem _ (List.mem_append_right _ h)) 3 (by decide) (List.mem_of_getElem? (i := 1) rfl) rfl dX4_restore_1 ?_
  refine q_if_ne (tgt := 10) C dX4_restore_4 (by decide) ⟨by omega, by omega⟩ (fun c1 => ?_) (fun c1 => ?_)
  · have c1 := c1
    refine q_aload_n C hl dX4_restore_10 rfl 0 rfl ?_
    refine q_runv C w fr_all (q_V (As := []) (rest := []) C w fr_all fX4_know gX4_restore_X4_know rfl ⟨Nat.le_of_ble_eq_true rfl, Nat.le_of_ble_eq_true rfl⟩ (kX4_know l D cI cC cS h ad σ α ς β τ q  (by omega) _) (q0 := 0) rfl rfl rfl rfl hl (Nat.le_of_ble_eq_true rfl) dX4_restore_11 ⟨Nat.le_refl 0, Nat.le_refl 0⟩) (fun H locs w => ?_)
    refine q_iconst C dX4_restore_14 ?_
    refine q_istore_n (lv' := [(1, .int (jj 0)), (0, .ref h)]) C hl dX4_restore_15 rfl (by decide) rfl (fun ls hl => ?_)
    have loop16 : ∀ (n16 : Nat) (i : Int), (0 ≤ i) → (i ≤ 109) → (109 - i).toNat < n16 → ∀ (H : Heap) (locs : List Loc), Wd D A s (mW cI h ad (lk ς σ i) σ ς (rcB β σ (q 5)) τ (rcQ q)) H locs → ∀ ls : Array Slot, lv_has ls 2 [(0, .ref h), (1, .int (jj i))] → W pr l en rX4_restore s m args below meth c H locs 0 0 (MQ below (Qi D (tz cI cC cS) (if q 3 = 0 then -5 else ς 0) (mW cI h ad (if q 3 = 0 then σ else ς) (if q 3 = 0 then α else σ) ς (if q 3 = 0 then β else rcB β σ (q 5)) τ (if q 3 = 0 then q else rcQ q)) A) args s 0 0 A) (F0 m 16 ls []) := by
      intro n16
      induction n16 with
      | zero => intro i hi0 hi1 hm; exact absurd hm (Nat.not_lt_zero _)
      | succ n16 ih16 =>
        intro i hi0 hi1 hm16 H locs w ls hl
        refine q_iload_n C hl dX4_restore_16 rfl 1 rfl ?_
        refine q_bipush C dX4_restore_17 (by decide) ?_
        refine q_icmp_ge (tgt := 40) C dX4_restore_19 (by decide) ⟨by omega, by omega⟩ ⟨by omega, by omega⟩ (fun c2 => ?_) (fun c2 => ?_)
        · have c2 := c2
          have w : Wd D A s (mW cI h ad ς σ ς (rcB β σ (q 5)) τ (rcQ q)) H locs := wd_mcong (fun k h0 h1 => by unfold lk; rw [if_pos (by omega)]) (fun k _ _ => rfl) (fun k _ _ => rfl) w
          refine q_aload_n C hl dX4_restore_40 rfl 0 rfl ?_
          refine q_getM C w.1 (fun w h => List.mem_cons_of_mem _ (List.mem_append_right _ h)) 0 (by decide) (List.mem_of_getElem? (i := 2) rfl) rfl dX4_restore_41 ?_
          refine q_iconst C dX4_restore_44 ?_
          refine q_Mld C w.1 ⟨by omega, by omega⟩ dX4_restore_45 ?_
          exact q_iret C w dX4_restore_46 (by rw [if_neg (by omega)]) (by rw [if_neg (by omega), if_neg (by omega), if_neg (by omega), if_neg (by omega)])
        · have c2 := c2
          refine q_aload_n C hl dX4_restore_22 rfl 0 rfl ?_
          refine q_getM C w.1 (fun w h => List.mem_cons_of_mem _ (List.mem_append_right _ h)) 0 (by decide) (List.mem_of_getElem? (i := 2) rfl) rfl dX4_restore_23 ?_
          refine q_iload_n C hl dX4_restore_26 rfl 1 rfl ?_
          refine q_aload_n C hl dX4_restore_27 rfl 0 rfl ?_
          refine q_getM C w.1 (fun w h => List.mem_cons_of_mem _ (List.mem_append_right _ h)) 2 (by decide) (List.mem_of_getElem? (i := 3) rfl) rfl dX4_restore_28 ?_
          refine q_iload_n C hl dX4_restore_31 rfl 1 rfl ?_
          refine q_iald (n := 109) (f := ς) C w.1 3 0 rfl rfl ⟨by omega, by omega, by omega⟩ dX4_restore_32 ?_
          refine q_Mst C w ⟨by omega, by omega⟩ dX4_restore_33 (fun H locs w => ?_)
          refine q_iinc (lv' := [(1, .int (jj (i + 1))), (0, .ref h)]) C hl dX4_restore_34 1 rfl (by decide) rfl (fun ls hl => ?_)
          refine q_goto (tgt := 16) C dX4_restore_37 (by decide) ?_
          exact ih16 (i + 1) (by omega) (by omega) (by omega) _ _ (by rw [lk_s ς σ hi0] at w; exact w) ls (lv_sub hl [1, 0] rfl)
    exact loop16 _ 0 (by omega) (by omega) (Nat.lt_succ_self _) _ _ (by rw [lk_0]; exact w) ls (lv_sub hl [1, 0] rfl)
  · have c1 := c1
    refine q_bipush C dX4_restore_7 (by decide) ?_
    exact q_iret C w dX4_restore_9 (by rw [if_pos (by omega)]) (by rw [if_pos (by omega), if_pos (by omega), if_pos (by omega), if_pos (by omega)])
