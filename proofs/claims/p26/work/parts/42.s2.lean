def rX1_remove : Room := { frames := 2, cells := 0, slots := 0, locals := 81 }
theorem fX1_remove : Fc yX1_remove wsX1_remove rX1_remove cX1_remove 2 none 1 := ⟨⟨_, rfl⟩, rfl, rfl, by decide +kernel, by decide +kernel, by decide +kernel⟩
set_option maxHeartbeats 4000000 in
set_option maxRecDepth 10000 in
theorem kX1_remove (l : Launch) (D : va_G) (cI cC cS : ClassId) (h : Nat) (ad : Nat → Nat) (σ : Int → Int) (p : Int) (bp : 0 ≤ p ∧ p ≤ 15) : Kv l yX1_remove wsX1_remove rX1_remove D (tz cI cC cS) [.ref h, .int (jj p)] (cSt cI h ad σ) (cSt cI h ad (rmv σ p)) := by
  refine q_entry (cc := cX1_remove) (nL := 2) (ret := none) (by decide) ⟨_, rfl⟩ (Nat.le_of_ble_eq_true rfl) ?_
  intro A pr en s m args below meth c C hin w ls hl
  have w := w
  have hl : lv_has ls 2 [(0, .ref h), (1, .int (jj p))] := hl
  have w : Wd D A s (cSt cI h ad (rgp σ p 0)) s.heap [] := by rw [rgp_0]; exact w
  refine q_aload_n C hl dX1_remove_0 rfl 0 rfl ?_
  refine q_getS C w.1 (fun w h => List.mem_cons_of_mem _ (List.mem_append_right _ h)) 0 (by decide) (List.mem_of_getElem? (i := 1) rfl) rfl dX1_remove_1 ?_
  refine q_iload_n C hl dX1_remove_4 rfl 1 rfl ?_
  refine q_runv C w (fg0 (by omega)) (q_S (As := [.ref (ad 0), .int (jj p)]) (rest := []) C w fs0 fX1_closeGap gX1_remove_X1_closeGap ⟨Nat.le_of_ble_eq_true rfl, Nat.le_of_ble_eq_true rfl⟩ (kX1_closeGap l D cI cC cS (ad 0) (rr (rgp σ p 0) 0) p (by omega) _) rfl rfl hl (Nat.le_of_ble_eq_true rfl) dX1_remove_5 ⟨Nat.le_refl 0, Nat.le_refl 0⟩) (fun H locs w => ?_)
  refine q_aload_n C hl dX1_remove_8 rfl 0 rfl ?_
  refine q_getS C w.1 (fun w h => List.mem_cons_of_mem _ (List.mem_append_right _ h)) 1 (by decide) (List.mem_of_getElem? (i := 2) rfl) rfl dX1_remove_9 ?_
  refine q_iload_n C hl dX1_remove_12 rfl 1 rfl ?_
  refine q_runv C w (fg1 (by omega)) (q_S (As := [.ref (ad 1), .int (jj p)]) (rest := []) C w fs1 fX1_closeGap gX1_remove_X1_closeGap ⟨Nat.le_of_ble_eq_true rfl, Nat.le_of_ble_eq_true rfl⟩ (kX1_closeGap l D cI cC cS (ad 1) (rr (rgp σ p 1) 1) p (by omega) _) rfl rfl hl (Nat.le_of_ble_eq_true rfl) dX1_remove_13 ⟨Nat.le_refl 0, Nat.le_refl 0⟩) (fun H locs w => ?_)
  refine q_aload_n C hl dX1_remove_16 rfl 0 rfl ?_
  refine q_getS C w.1 (fun w h => List.mem_cons_of_mem _ (List.mem_append_right _ h)) 2 (by decide) (List.mem_of_getElem? (i := 3) rfl) rfl dX1_remove_17 ?_
  refine q_iload_n C hl dX1_remove_20 rfl 1 rfl ?_
  refine q_runv C w (fg2 (by omega)) (q_S (As := [.ref (ad 2), .int (jj p)]) (rest := []) C w fs2 fX1_closeGap gX1_remove_X1_closeGap ⟨Nat.le_of_ble_eq_true rfl, Nat.le_of_ble_eq_true rfl⟩ (kX1_closeGap l D cI cC cS (ad 2) (rr (rgp σ p 2) 2) p (by omega) _) rfl rfl hl (Nat.le_of_ble_eq_true rfl) dX1_remove_21 ⟨Nat.le_refl 0, Nat.le_refl 0⟩) (fun H locs w => ?_)
  refine q_aload_n C hl dX1_remove_24 rfl 0 rfl ?_
  refine q_getS C w.1 (fun w h => List.mem_cons_of_mem _ (List.mem_append_right _ h)) 3 (by decide) (List.mem_of_getElem? (i := 4) rfl) rfl dX1_remove_25 ?_
  refine q_iload_n C hl dX1_remove_28 rfl 1 rfl ?_
  refine q_runv C w (fg3 (by omega)) (q_S (As := [.ref (ad 3), .int (jj p)]) (rest := []) C w fs3 fX1_closeGap gX1_remove_X1_closeGap ⟨Nat.le_of_ble_eq_true rfl, Nat.le_of_ble_eq_true rfl⟩ (kX1_closeGap l D cI cC cS (ad 3) (rr (rgp σ p 3) 3) p (by omega) _) rfl rfl hl (Nat.le_of_ble_eq_true rfl) dX1_remove_29 ⟨Nat.le_refl 0, Nat.le_refl 0⟩) (fun H locs w => ?_)
  refine q_aload_n C hl dX1_remove_32 rfl 0 rfl ?_
  refine q_getS C w.1 (fun w h => List.mem_cons_of_mem _ (List.mem_append_right _ h)) 4 (by decide) (List.mem_of_getElem? (i := 5) rfl) rfl dX1_remove_33 ?_
  refine q_iload_n C hl dX1_remove_36 rfl 1 rfl ?_
  refine q_runv C w (fg4 (by omega)) (q_S (As := [.ref (ad 4), .int (jj p)]) (rest := []) C w fs4 fX1_closeGap gX1_remove_X1_closeGap ⟨Nat.le_of_ble_eq_true rfl, Nat.le_of_ble_eq_true rfl⟩ (kX1_closeGap l D cI cC cS (ad 4) (rr (rgp σ p 4) 4) p (by omega) _) rfl rfl hl (Nat.le_of_ble_eq_true rfl) dX1_remove_37 ⟨Nat.le_refl 0, Nat.le_refl 0⟩) (fun H locs w => ?_)
  refine q_aload_n C hl dX1_remove_40 rfl 0 rfl ?_
  refine q_getS C w.1 (fun w h => List.mem_cons_of_mem _ (List.mem_append_right _ h)) 5 (by decide) (List.mem_of_getElem? (i := 6) rfl) rfl dX1_remove_41 ?_
  refine q_iload_n C hl dX1_remove_44 rfl 1 rfl ?_
  refine q_runv C w (fg5 (by omega)) (q_S (As := [.ref (ad 5), .int (jj p)]) (rest := []) C w fs5 fX1_closeGap gX1_remove_X1_closeGap ⟨Nat.le_of_ble_eq_true rfl, Nat.le_of_ble_eq_true rfl⟩ (kX1_closeGap l D cI cC cS (ad 5) (rr (rgp σ p 5) 5) p (by omega) _) rfl rfl hl (Nat.le_of_ble_eq_true rfl) dX1_remove_45 ⟨Nat.le_refl 0, Nat.le_refl 0⟩) (fun H locs w => ?_)
  refine q_aload_n C hl dX1_remove_48 rfl 0 rfl ?_
  refine q_dup C dX1_remove_49 rfl ?_
  refine q_getS C w.1 (fun w h => List.mem_cons_of_mem _ (List.mem_append_right _ h)) 7 (by decide) (List.mem_of_getElem? (i := 7) rfl) rfl dX1_remove_50 ?_
  refine q_iconst C dX1_remove_53 ?_
  refine q_isub C dX1_remove_54 ?_
  refine q_putS C w (fun w h => List.mem_cons_of_mem _ (List.mem_append_right _ h)) 0 (by decide) (List.mem_of_getElem? (i := 7) rfl) rfl rfl dX1_remove_55 (fun H locs w => ?_)
  exact q_vret C w dX1_remove_58 rfl

def rX1_admit : Room := { frames := 1, cells := 0, slots := 0, locals := 22 }
theorem fX1_admit : Fc yX1_admit wsX1_admit rX1_admit cX1_admit 5 (some .int) 3 := ⟨⟨_, rfl⟩, rfl, rfl, by decide +kernel, by decide +kernel, by decide +kernel⟩
set_option maxHeartbeats 4000000 in
set_option maxRecDepth 10000 in
theorem kX1_admit (l : Launch) (D : va_G) (cI cC cS : ClassId) (h : Nat) (ad : Nat → Nat) (σ : Int → Int) (pa co wi : Int) (bY : Iv σ) (z_pa : -2147483648 ≤ pa ∧ pa ≤ 2147483647) (z_co : -2147483648 ≤ co ∧ co ≤ 2147483647) (z_wi : -2147483648 ≤ wi ∧ wi ≤ 2147483647) : Ki l yX1_admit wsX1_admit rX1_admit D (tz cI cC cS) [.ref h, .int (jj pa), .int (jj co), .int (jj wi)] (cSt cI h ad σ) (comu σ pa co wi) (cSt cI h ad (comW σ pa co wi)) := by
  obtain ⟨bW, bE, bP, bc, bN, bU, b1, b9, b10, bv, bf⟩ := bY
  have hn := bW.1
  have hn2 := bW.2.1
  refine q_entry (cc := cX1_admit) (nL := 5) (ret := (some .int)) (by decide) ⟨_, rfl⟩ (Nat.le_of_ble_eq_true rfl) ?_
  intro A pr en s m args below meth c C hin w ls hl
  have w := w
  have hl : lv_has ls 5 [(0, .ref h), (1, .int (jj pa)), (2, .int (jj co)), (3, .int (jj wi))] := hl
  refine q_iload_n C hl dX1_admit_0 rfl 1 rfl ?_
  refine q_bipush C dX1_admit_1 (by decide) ?_
  refine q_sipush C dX1_admit_3 (by decide) ?_
  refine q_runi C w fr_nil (q_SN (As := [.int (jj pa), .int (jj 10), .int (jj 999)]) (rest := []) C w fr_nil fX3_isWithin gX1_admit_X3_isWithin_n70 C.N.2.2.2.1 (List.mem_of_getElem? (i := 10) rfl) (List.mem_of_getElem? (i := 9) rfl) ⟨Nat.le_of_ble_eq_true rfl, Nat.le_of_ble_eq_true rfl⟩ (kX3_isWithin l D cI cC cS pa 10 999 ⟨by omega, by omega⟩ ⟨by omega, by omega⟩ ⟨by omega, by omega⟩ _) rfl rfl hl (Nat.le_of_ble_eq_true rfl) dX1_admit_6 ⟨Nat.le_refl 0, Nat.le_refl 0⟩) (fun H locs w => ?_)
  refine q_ifz_eq (tgt := 32) C dX1_admit_9 (by decide) (fun c1 => ?_) (fun c1 => ?_)
  · have c1 := c1
    refine q_bipush C dX1_admit_32 (by decide) ?_
    exact q_iret C w dX1_admit_34 (by unfold comu; (repeat' split) <;> omega) (by have hu : comu σ pa co wi = -2 := (by unfold comu; (repeat' split) <;> omega); unfold comW; rw [hu, if_neg (by omega)])
  · have c1 := c1
    refine q_iload_n C hl dX1_admit_12 rfl 2 rfl ?_
    refine q_iconst C dX1_admit_13 ?_
    refine q_sipush C dX1_admit_14 (by decide) ?_
    refine q_runi C w fr_nil (q_SN (As := [.int (jj co), .int (jj 0), .int (jj 9999)]) (rest := []) C w fr_nil fX3_isWithin gX1_admit_X3_isWithin_n70 C.N.2.2.2.1 (List.mem_of_getElem? (i := 10) rfl) (List.mem_of_getElem? (i := 9) rfl) ⟨Nat.le_of_ble_eq_true rfl, Nat.le_of_ble_eq_true rfl⟩ (kX3_isWithin l D cI cC cS co 0 9999 ⟨by omega, by omega⟩ ⟨by omega, by omega⟩ ⟨by omega, by omega⟩ _) rfl rfl hl (Nat.le_of_ble_eq_true rfl) dX1_admit_17 ⟨Nat.le_refl 0, Nat.le_refl 0⟩) (fun H locs w => ?_)
    refine q_ifz_eq (tgt := 32) C dX1_admit_20 (by decide) (fun c2 => ?_) (fun c2 => ?_)
    · have c2 := c2
      refine q_bipush C dX1_admit_32 (by decide) ?_
      exact q_iret C w dX1_admit_34 (by unfold comu; (repeat' split) <;> omega) (by have hu : comu σ pa co wi = -2 := (by unfold comu; (repeat' split) <;> omega); unfold comW; rw [hu, if_neg (by omega)])
    · have c2 := c2
      refine q_iload_n C hl dX1_admit_23 rfl 3 rfl ?_
      refine q_iconst C dX1_admit_24 ?_
      refine q_iconst C dX1_admit_25 ?_
      refine q_runi C w fr_nil (q_SN (As := [.int (jj wi), .int (jj 0), .int (jj 5)]) (rest := []) C w fr_nil fX3_isWithin gX1_admit_X3_isWithin_n70 C.N.2.2.2.1 (List.mem_of_getElem? (i := 10) rfl) (List.mem_of_getElem? (i := 9) rfl) ⟨Nat.le_of_ble_eq_true rfl, Nat.le_of_ble_eq_true rfl⟩ (kX3_isWithin l D cI cC cS wi 0 5 ⟨by omega, by omega⟩ ⟨by omega, by omega⟩ ⟨by omega, by omega⟩ _) rfl rfl hl (Nat.le_of_ble_eq_true rfl) dX1_admit_26 ⟨Nat.le_refl 0, Nat.le_refl 0⟩) (fun H locs w => ?_)
      refine q_ifz_ne (tgt := 35) C dX1_admit_29 (by decide) (fun c3 => ?_) (fun c3 => ?_)
      · have c3 := c3
        refine q_aload_n C hl dX1_admit_35 rfl 0 rfl ?_
        refine q_getS C w.1 (fun w h => List.mem_cons_of_mem _ (List.mem_append_right _ h)) 7 (by decide) (List.mem_of_getElem? (i := 1) rfl) rfl dX1_admit_36 ?_
        refine q_bipush C dX1_admit_39 (by decide) ?_
        refine q_icmp_ge (tgt := 54) C dX1_admit_41 (by decide) ⟨by omega, by omega⟩ ⟨by omega, by omega⟩ (fun c4 => ?_) (fun c4 => ?_)
        · have c4 := c4
          refine q_bipush C dX1_admit_54 (by decide) ?_
          exact q_iret C w dX1_admit_56 (by unfold comu; (repeat' split) <;> omega) (by have hu : comu σ pa co wi = -3 := (by unfold comu; (repeat' split) <;> omega); unfold comW; rw [hu, if_neg (by omega)])
        · have c4 := c4
          refine q_aload_n C hl dX1_admit_44 rfl 0 rfl ?_
          refine q_getS C w.1 (fun w h => List.mem_cons_of_mem _ (List.mem_append_right _ h)) 8 (by decide) (List.mem_of_getElem? (i := 2) rfl) rfl dX1_admit_45 ?_
          refine q_sipush C dX1_admit_48 (by decide) ?_
          refine q_icmp_lt (tgt := 57) C dX1_admit_51 (by decide) ⟨by omega, by omega⟩ ⟨by omega, by omega⟩ (fun c5 => ?_) (fun c5 => ?_)
          · have c5 := c5
            refine q_aload_n C hl dX1_admit_57 rfl 0 rfl ?_
            refine q_getS C w.1 (fun w h => List.mem_cons_of_mem _ (List.mem_append_right _ h)) 7 (by decide) (List.mem_of_getElem? (i := 1) rfl) rfl dX1_admit_58 ?_
            refine q_istore (lv' := [(4, .int (jj (σ 0))), (0, .ref h), (1, .int (jj pa)), (2, .int (jj co)), (3, .int (jj wi))]) C hl dX1_admit_61 (by decide) rfl (fun ls hl => ?_)
            refine q_aload_n C hl dX1_admit_63 rfl 1 rfl ?_
            refine q_getS C w.1 (fun w h => List.mem_cons_of_mem _ (List.mem_append_right _ h)) 0 (by decide) (List.mem_of_getElem? (i := 3) rfl) rfl dX1_admit_64 ?_
            refine q_iload C hl dX1_admit_67 0 rfl ?_
            refine q_aload_n C hl dX1_admit_69 rfl 1 rfl ?_
            refine q_getS C w.1 (fun w h => List.mem_cons_of_mem _ (List.mem_append_right _ h)) 8 (by decide) (List.mem_of_getElem? (i := 2) rfl) rfl dX1_admit_70 ?_
            refine q_Sst C w 1 0 rfl ⟨by omega, by omega⟩ dX1_admit_73 (sR0 cI h ad _ _ _ (by omega)) (fun H locs w => ?_)
            refine q_aload_n C hl dX1_admit_74 rfl 1 rfl ?_
            refine q_getS C w.1 (fun w h => List.mem_cons_of_mem _ (List.mem_append_right _ h)) 1 (by decide) (List.mem_of_getElem? (i := 4) rfl) rfl dX1_admit_75 ?_
            refine q_iload C hl dX1_admit_78 0 rfl ?_
            refine q_iconst C dX1_admit_80 ?_
            refine q_Sst C w 2 1 rfl ⟨by omega, by omega⟩ dX1_admit_81 (sR1 cI h ad _ _ _ (by omega)) (fun H locs w => ?_)
            refine q_aload_n C hl dX1_admit_82 rfl 1 rfl ?_
            refine q_getS C w.1 (fun w h => List.mem_cons_of_mem _ (List.mem_append_right _ h)) 2 (by decide) (List.mem_of_getElem? (i := 5) rfl) rfl dX1_admit_83 ?_
            refine q_iload C hl dX1_admit_86 0 rfl ?_
            refine q_iload_n C hl dX1_admit_88 rfl 2 rfl ?_
            refine q_Sst C w 3 2 rfl ⟨by omega, by omega⟩ dX1_admit_89 (sR2 cI h ad _ _ _ (by omega)) (fun H locs w => ?_)
            refine q_aload_n C hl dX1_admit_90 rfl 1 rfl ?_
            refine q_getS C w.1 (fun w h => List.mem_cons_of_mem _ (List.mem_append_right _ h)) 3 (by decide) (List.mem_of_getElem? (i := 6) rfl) rfl dX1_admit_91 ?_
            refine q_iload C hl dX1_admit_94 0 rfl ?_
            refine q_iload_n C hl dX1_admit_96 rfl 3 rfl ?_
            refine q_Sst C w 4 3 rfl ⟨by omega, by omega⟩ dX1_admit_97 (sR3 cI h ad _ _ _ (by omega)) (fun H locs w => ?_)
            refine q_aload_n C hl dX1_admit_98 rfl 1 rfl ?_
            refine q_getS C w.1 (fun w h => List.mem_cons_of_mem _ (List.mem_append_right _ h)) 4 (by decide) (List.mem_of_getElem? (i := 7) rfl) rfl dX1_admit_99 ?_
            refine q_iload C hl dX1_admit_102 0 rfl ?_
            refine q_iload_n C hl dX1_admit_104 rfl 4 rfl ?_
            refine q_Sst C w 5 4 rfl ⟨by omega, by omega⟩ dX1_admit_105 (sR4 cI h ad _ _ _ (by omega)) (fun H locs w => ?_)
            refine q_aload_n C hl dX1_admit_106 rfl 1 rfl ?_
            refine q_getS C w.1 (fun w h => List.mem_cons_of_mem _ (List.mem_append_right _ h)) 5 (by decide) (List.mem_of_getElem? (i := 8) rfl) rfl dX1_admit_107 ?_
            refine q_iload C hl dX1_admit_110 0 rfl ?_
            refine q_iconst C dX1_admit_112 ?_
            refine q_Sst C w 6 5 rfl ⟨by omega, by omega⟩ dX1_admit_113 (sR5 cI h ad _ _ _ (by omega)) (fun H locs w => ?_)
            refine q_aload_n C hl dX1_admit_114 rfl 1 rfl ?_
            refine q_dup C dX1_admit_115 rfl ?_
            refine q_getS C w.1 (fun w h => List.mem_cons_of_mem _ (List.mem_append_right _ h)) 7 (by decide) (List.mem_of_getElem? (i := 1) rfl) rfl dX1_admit_116 ?_
            refine q_iconst C dX1_admit_119 ?_
            refine q_iadd C dX1_admit_120 ?_
            refine q_putS C w (fun w h => List.mem_cons_of_mem _ (List.mem_append_right _ h)) 0 (by decide) (List.mem_of_getElem? (i := 1) rfl) rfl rfl dX1_admit_121 (fun H locs w => ?_)
            refine q_aload_n C hl dX1_admit_124 rfl 1 rfl ?_
            refine q_dup C dX1_admit_125 rfl ?_
            refine q_getS C w.1 (fun w h => List.mem_cons_of_mem _ (List.mem_append_right _ h)) 8 (by decide) (List.mem_of_getElem? (i := 2) rfl) rfl dX1_admit_126 ?_
            refine q_iconst C dX1_admit_129 ?_
            refine q_iadd C dX1_admit_130 ?_
            refine q_putS C w (fun w h => List.mem_cons_of_mem _ (List.mem_append_right _ h)) 1 (by decide) (List.mem_of_getElem? (i := 2) rfl) rfl rfl dX1_admit_131 (fun H locs w => ?_)
            refine q_iload C hl dX1_admit_134 0 rfl ?_
            exact q_iret C w dX1_admit_136 (by unfold comu; (repeat' split) <;> omega) (by have hu : comu σ pa co wi = σ 0 := (by unfold comu; (repeat' split) <;> omega); unfold comW; rw [hu, if_pos (by omega)] <;> rfl)
          · have c5 := c5
            refine q_bipush C dX1_admit_54 (by decide) ?_
            exact q_iret C w dX1_admit_56 (by unfold comu; (repeat' split) <;> omega) (by have hu : comu σ pa co wi = -3 := (by unfold comu; (repeat' split) <;> omega); unfold comW; rw [hu, if_neg (by omega)])
      · have c3 := c3
        refine q_bipush C dX1_admit_32 (by decide) ?_
        exact q_iret C w dX1_admit_34 (by unfold comu; (repeat' split) <;> omega) (by have hu : comu σ pa co wi = -2 := (by unfold comu; (repeat' split) <;> omega); unfold comW; rw [hu, if_neg (by omega)])

def rX1_dismiss : Room := { frames := 3, cells := 0, slots := 0, locals := 102 }
theorem fX1_dismiss : Fc yX1_dismiss wsX1_dismiss rX1_dismiss cX1_dismiss 3 (some .int) 1 := ⟨⟨_, rfl⟩, rfl, rfl, by decide +kernel, by decide +kernel, by decide +kernel⟩
set_option maxHeartbeats 4000000 in
set_option maxRecDepth 10000 in
theorem kX1_dismiss (l : Launch) (D : va_G) (cI cC cS : ClassId) (h : Nat) (ad : Nat → Nat) (σ : Int → Int) (p : Int) (bY : Iv σ) (z_p : -2147483648 ≤ p ∧ p ≤ 2147483647) : Ki l yX1_dismiss wsX1_dismiss rX1_dismiss D (tz cI cC cS) [.ref h, .int (jj p)] (cSt cI h ad σ) (levu σ p) (cSt cI h ad (levW σ p)) := by
  obtain ⟨bW, bE, bP, bc, bN, bU, b1, b9, b10, bv, bf⟩ := bY
  have hn := bW.1
  have hn2 := bW.2.1
  refine q_entry (cc := cX1_dismiss) (nL := 3) (ret := (some .int)) (by decide) ⟨_, rfl⟩ (Nat.le_of_ble_eq_true rfl) ?_
  intro A pr en s m args below meth c C hin w ls hl
  have w := w
  have hl : lv_has ls 3 [(0, .ref h), (1, .int (jj p))] := hl
  refine q_aload_n C hl dX1_dismiss_0 rfl 0 rfl ?_
  refine q_iload_n C hl dX1_dismiss_1 rfl 1 rfl ?_
  refine q_runi C w fr_all (q_V (As := [.int (jj p)]) (rest := []) C w fr_all fX1_isPlace gX1_dismiss_X1_isPlace rfl ⟨Nat.le_of_ble_eq_true rfl, Nat.le_of_ble_eq_true rfl⟩ (kX1_isPlace l D cI cC cS h ad σ p ⟨by omega, by omega⟩ (by omega) _) (q0 := 0) rfl rfl rfl rfl hl (Nat.le_of_ble_eq_true rfl) dX1_dismiss_2 ⟨Nat.le_refl 0, Nat.le_refl 0⟩) (fun H locs w => ?_)
  refine q_ifz_ne (tgt := 10) C dX1_dismiss_5 (by decide) (fun c1 => ?_) (fun c1 => ?_)
  · have c1 := c1
    refine q_aload_n C hl dX1_dismiss_10 rfl 0 rfl ?_
    refine q_getS C w.1 (fun w h => List.mem_cons_of_mem _ (List.mem_append_right _ h)) 1 (by decide) (List.mem_of_getElem? (i := 1) rfl) rfl dX1_dismiss_11 ?_
    refine q_iload_n C hl dX1_dismiss_14 rfl 1 rfl ?_
    refine q_Sld C w.1 2 1 rfl ⟨by omega, by omega⟩ dX1_dismiss_15 ?_
    refine q_istore_n (lv' := [(2, .int (jj (σ (13 + 6 * p + 1)))), (0, .ref h), (1, .int (jj p))]) C hl dX1_dismiss_16 rfl (by decide) rfl (fun ls hl => ?_)
    refine q_aload_n C hl dX1_dismiss_17 rfl 1 rfl ?_
    refine q_iload_n C hl dX1_dismiss_18 rfl 2 rfl ?_
    refine q_runv C w fr_all (q_V (As := [.int (jj p)]) (rest := []) C w fr_all fX1_remove gX1_dismiss_X1_remove rfl ⟨Nat.le_of_ble_eq_true rfl, Nat.le_of_ble_eq_true rfl⟩ (kX1_remove l D cI cC cS h ad σ p (by omega) _) (q0 := 0) rfl rfl rfl rfl hl (Nat.le_of_ble_eq_true rfl) dX1_dismiss_19 ⟨Nat.le_refl 0, Nat.le_refl 0⟩) (fun H locs w => ?_)
    refine q_aload_n C hl dX1_dismiss_22 rfl 1 rfl ?_
    refine q_dup C dX1_dismiss_23 rfl ?_
    refine q_getS C w.1 (fun w h => List.mem_cons_of_mem _ (List.mem_append_right _ h)) 9 (by decide) (List.mem_of_getElem? (i := 2) rfl) rfl dX1_dismiss_24 ?_
    refine q_iconst C dX1_dismiss_27 ?_
    refine q_iadd C dX1_dismiss_28 ?_
    refine q_putS C w (fun w h => List.mem_cons_of_mem _ (List.mem_append_right _ h)) 2 (by decide) (List.mem_of_getElem? (i := 2) rfl) rfl rfl dX1_dismiss_29 (fun H locs w => ?_)
    refine q_iload_n C hl dX1_dismiss_32 rfl 0 rfl ?_
    exact q_iret C w dX1_dismiss_33 (by unfold levu; (repeat' split) <;> omega) (by unfold levW; rw [if_pos (by omega)] <;> rfl)
  · have c1 := c1
    refine q_iconst C dX1_dismiss_8 ?_
    exact q_iret C w dX1_dismiss_9 (by unfold levu; (repeat' split) <;> omega) (by unfold levW; rw [if_neg (by omega)])

def rX1_changePlaces : Room := { frames := 1, cells := 0, slots := 0, locals := 22 }
theorem fX1_changePlaces : Fc yX1_changePlaces wsX1_changePlaces rX1_changePlaces cX1_changePlaces 2 (some .int) 1 := ⟨⟨_, rfl⟩, rfl, rfl, by decide +kernel, by decide +kernel, by decide +kernel⟩
set_option maxHeartbeats 4000000 in
set_option maxRecDepth 10000 in
theorem kX1_changePlaces (l : Launch) (D : va_G) (cI cC cS : ClassId) (h : Nat) (ad : Nat → Nat) (σ : Int → Int) (p : Int) (bY : Iv σ) (z_p : -2147483648 ≤ p ∧ p ≤ 2147483647) : Ki l yX1_changePlaces wsX1_changePlaces rX1_changePlaces D (tz cI cC cS) [.ref h, .int (jj p)] (cSt cI h ad σ) (ltu σ p) (cSt cI h ad (ltv σ p)) := by
  obtain ⟨bW, bE, bP, bc, bN, bU, b1, b9, b10, bv, bf⟩ := bY
  have hn := bW.1
  have hn2 := bW.2.1
  refine q_entry (cc := cX1_changePlaces) (nL := 2) (ret := (some .int)) (by decide) ⟨_, rfl⟩ (Nat.le_of_ble_eq_true rfl) ?_
  intro A pr en s m args below meth c C hin w ls hl
  have w := w
  have hl : lv_has ls 2 [(0, .ref h), (1, .int (jj p))] := hl
  refine q_aload_n C hl dX1_changePlaces_0 rfl 0 rfl ?_
  refine q_iload_n C hl dX1_changePlaces_1 rfl 1 rfl ?_
  refine q_runi C w fr_all (q_V (As := [.int (jj p)]) (rest := []) C w fr_all fX1_hasNeighbour gX1_changePlaces_X1_hasNeighbour rfl ⟨Nat.le_of_ble_eq_true rfl, Nat.le_of_ble_eq_true rfl⟩ (kX1_hasNeighbour l D cI cC cS h ad σ p ⟨by omega, by omega⟩ (by omega) _) (q0 := 0) rfl rfl rfl rfl hl (Nat.le_of_ble_eq_true rfl) dX1_changePlaces_2 ⟨Nat.le_refl 0, Nat.le_refl 0⟩) (fun H locs w => ?_)
  refine q_ifz_ne (tgt := 10) C dX1_changePlaces_5 (by decide) (fun c1 => ?_) (fun c1 => ?_)
  · have c1 := c1
    refine q_aload_n C hl dX1_changePlaces_10 rfl 0 rfl ?_
    refine q_getS C w.1 (fun w h => List.mem_cons_of_mem _ (List.mem_append_right _ h)) 0 (by decide) (List.mem_of_getElem? (i := 1) rfl) rfl dX1_changePlaces_11 ?_
    refine q_iload_n C hl dX1_changePlaces_14 rfl 1 rfl ?_
    refine q_runv C w (fx0 (by omega)) (q_S (As := [.ref (ad 0), .int (jj p)]) (rest := []) C w fs0 fX1_exchange gX1_changePlaces_X1_exchange ⟨Nat.le_of_ble_eq_true rfl, Nat.le_of_ble_eq_true rfl⟩ (kX1_exchange l D cI cC cS (ad 0) (rr σ 0) p (by omega) _) rfl rfl hl (Nat.le_of_ble_eq_true rfl) dX1_changePlaces_15 ⟨Nat.le_refl 0, Nat.le_refl 0⟩) (fun H locs w => ?_)
    refine q_aload_n C hl dX1_changePlaces_18 rfl 0 rfl ?_
    refine q_getS C w.1 (fun w h => List.mem_cons_of_mem _ (List.mem_append_right _ h)) 1 (by decide) (List.mem_of_getElem? (i := 2) rfl) rfl dX1_changePlaces_19 ?_
    refine q_iload_n C hl dX1_changePlaces_22 rfl 1 rfl ?_
    refine q_runv C w (fx1 (by omega)) (q_S (As := [.ref (ad 1), .int (jj p)]) (rest := []) C w fs1 fX1_exchange gX1_changePlaces_X1_exchange ⟨Nat.le_of_ble_eq_true rfl, Nat.le_of_ble_eq_true rfl⟩ (kX1_exchange l D cI cC cS (ad 1) (rr (xch σ p 0) 1) p (by omega) _) rfl rfl hl (Nat.le_of_ble_eq_true rfl) dX1_changePlaces_23 ⟨Nat.le_refl 0, Nat.le_refl 0⟩) (fun H locs w => ?_)
    refine q_aload_n C hl dX1_changePlaces_26 rfl 0 rfl ?_
    refine q_getS C w.1 (fun w h => List.mem_cons_of_mem _ (List.mem_append_right _ h)) 2 (by decide) (List.mem_of_getElem? (i := 3) rfl) rfl dX1_changePlaces_27 ?_
    refine q_iload_n C hl dX1_changePlaces_30 rfl 1 rfl ?_
    refine q_runv C w (fx2 (by omega)) (q_S (As := [.ref (ad 2), .int (jj p)]) (rest := []) C w fs2 fX1_exchange gX1_changePlaces_X1_exchange ⟨Nat.le_of_ble_eq_true rfl, Nat.le_of_ble_eq_true rfl⟩ (kX1_exchange l D cI cC cS (ad 2) (rr (xch (xch σ p 0) p 1) 2) p (by omega) _) rfl rfl hl (Nat.le_of_ble_eq_true rfl) dX1_changePlaces_31 ⟨Nat.le_refl 0, Nat.le_refl 0⟩) (fun H locs w => ?_)
    refine q_aload_n C hl dX1_changePlaces_34 rfl 0 rfl ?_
    refine q_getS C w.1 (fun w h => List.mem_cons_of_mem _ (List.mem_append_right _ h)) 3 (by decide) (List.mem_of_getElem? (i := 4) rfl) rfl dX1_changePlaces_35 ?_
    refine q_iload_n C hl dX1_changePlaces_38 rfl 1 rfl ?_
    refine q_runv C w (fx3 (by omega)) (q_S (As := [.ref (ad 3), .int (jj p)]) (rest := []) C w fs3 fX1_exchange gX1_changePlaces_X1_exchange ⟨Nat.le_of_ble_eq_true rfl, Nat.le_of_ble_eq_true rfl⟩ (kX1_exchange l D cI cC cS (ad 3) (rr (xch (xch (xch σ p 0) p 1) p 2) 3) p (by omega) _) rfl rfl hl (Nat.le_of_ble_eq_true rfl) dX1_changePlaces_39 ⟨Nat.le_refl 0, Nat.le_refl 0⟩) (fun H locs w => ?_)
    refine q_aload_n C hl dX1_changePlaces_42 rfl 0 rfl ?_
    refine q_getS C w.1 (fun w h => List.mem_cons_of_mem _ (List.mem_append_right _ h)) 4 (by decide) (List.mem_of_getElem? (i := 5) rfl) rfl dX1_changePlaces_43 ?_
    refine q_iload_n C hl dX1_changePlaces_46 rfl 1 rfl ?_
    refine q_runv C w (fx4 (by omega)) (q_S (As := [.ref (ad 4), .int (jj p)]) (rest := []) C w fs4 fX1_exchange gX1_changePlaces_X1_exchange ⟨Nat.le_of_ble_eq_true rfl, Nat.le_of_ble_eq_true rfl⟩ (kX1_exchange l D cI cC cS (ad 4) (rr (xch (xch (xch (xch σ p 0) p 1) p 2) p 3) 4) p (by omega) _) rfl rfl hl (Nat.le_of_ble_eq_true rfl) dX1_changePlaces_47 ⟨Nat.le_refl 0, Nat.le_refl 0⟩) (fun H locs w => ?_)
    refine q_aload_n C hl dX1_changePlaces_50 rfl 0 rfl ?_
    refine q_getS C w.1 (fun w h => List.mem_cons_of_mem _ (List.mem_append_right _ h)) 5 (by decide) (List.mem_of_getElem? (i := 6) rfl) rfl dX1_changePlaces_51 ?_
    refine q_iload_n C hl dX1_changePlaces_54 rfl 1 rfl ?_
    refine q_runv C w (fx5 (by omega)) (q_S (As := [.ref (ad 5), .int (jj p)]) (rest := []) C w fs5 fX1_exchange gX1_changePlaces_X1_exchange ⟨Nat.le_of_ble_eq_true rfl, Nat.le_of_ble_eq_true rfl⟩ (kX1_exchange l D cI cC cS (ad 5) (rr (xch (xch (xch (xch (xch σ p 0) p 1) p 2) p 3) p 4) 5) p (by omega) _) rfl rfl hl (Nat.le_of_ble_eq_true rfl) dX1_changePlaces_55 ⟨Nat.le_refl 0, Nat.le_refl 0⟩) (fun H locs w => ?_)
    refine q_aload_n C hl dX1_changePlaces_58 rfl 0 rfl ?_
    refine q_getS C w.1 (fun w h => List.mem_cons_of_mem _ (List.mem_append_right _ h)) 0 (by decide) (List.mem_of_getElem? (i := 1) rfl) rfl dX1_changePlaces_59 ?_
    refine q_iload_n C hl dX1_changePlaces_62 rfl 1 rfl ?_
    refine q_Sld C w.1 1 0 rfl ⟨by omega, by omega⟩ dX1_changePlaces_63 ?_
    exact q_iret C w dX1_changePlaces_64 (by have hx := (xls_i σ (p := p) (by omega) 6 (by omega) (by omega)).2.1 0 (by omega) (by omega); unfold ltu; rw [if_pos (by omega), ← hx.1] <;> rfl) (by unfold ltv; rw [if_pos (by omega)] <;> rfl)
  · have c1 := c1
    refine q_iconst C dX1_changePlaces_8 ?_
    exact q_iret C w dX1_changePlaces_9 (by unfold ltu; (repeat' split) <;> omega) (by unfold ltv; rw [if_neg (by omega)])

def rX1_swapUmbrellas : Room := { frames := 1, cells := 0, slots := 0, locals := 26 }
theorem fX1_swapUmbrellas : Fc yX1_swapUmbrellas wsX1_swapUmbrellas rX1_swapUmbrellas cX1_swapUmbrellas 3 (some .int) 1 := ⟨⟨_, rfl⟩, rfl, rfl, by decide +kernel, by decide +kernel, by decide +kernel⟩
set_option maxHeartbeats 4000000 in
set_option maxRecDepth 10000 in
theorem kX1_swapUmbrellas (l : Launch) (D : va_G) (cI cC cS : ClassId) (h : Nat) (ad : Nat → Nat) (σ : Int → Int) (p : Int) (bY : Iv σ) (z_p : -2147483648 ≤ p ∧ p ≤ 2147483647) : Ki l yX1_swapUmbrellas wsX1_swapUmbrellas rX1_swapUmbrellas D (tz cI cC cS) [.ref h, .int (jj p)] (cSt cI h ad σ) (swu σ p) (cSt cI h ad (swv σ p)) := by
  obtain ⟨bW, bE, bP, bc, bN, bU, b1, b9, b10, bv, bf⟩ := bY
  have hn := bW.1
  have hn2 := bW.2.1
  have hy := why_b σ p
  refine q_entry (cc := cX1_swapUmbrellas) (nL := 3) (ret := (some .int)) (by decide) ⟨_, rfl⟩ (Nat.le_of_ble_eq_true rfl) ?_
  intro A pr en s m args below meth c C hin w ls hl
  have w := w
  have hl : lv_has ls 3 [(0, .ref h), (1, .int (jj p))] := hl
  refine q_aload_n C hl dX1_swapUmbrellas_0 rfl 0 rfl ?_
  refine q_iload_n C hl dX1_swapUmbrellas_1 rfl 1 rfl ?_
  refine q_runi C w fr_all (q_V (As := [.int (jj p)]) (rest := []) C w fr_all fX1_hasNeighbour gX1_swapUmbrellas_X1_hasNeighbour rfl ⟨Nat.le_of_ble_eq_true rfl, Nat.le_of_ble_eq_true rfl⟩ (kX1_hasNeighbour l D cI cC cS h ad σ p ⟨by omega, by omega⟩ (by omega) _) (q0 := 0) rfl rfl rfl rfl hl (Nat.le_of_ble_eq_true rfl) dX1_swapUmbrellas_2 ⟨Nat.le_refl 0, Nat.le_refl 0⟩) (fun H locs w => ?_)
  refine q_ifz_ne (tgt := 10) C dX1_swapUmbrellas_5 (by decide) (fun c1 => ?_) (fun c1 => ?_)
  · have c1 := c1
    refine q_aload_n C hl dX1_swapUmbrellas_10 rfl 0 rfl ?_
    refine q_iload_n C hl dX1_swapUmbrellas_11 rfl 1 rfl ?_
    refine q_runi C w fr_all (q_V (As := [.int (jj p)]) (rest := []) C w fr_all fX1_refusal gX1_swapUmbrellas_X1_refusal rfl ⟨Nat.le_of_ble_eq_true rfl, Nat.le_of_ble_eq_true rfl⟩ (kX1_refusal l D cI cC cS h ad σ p (by omega) bW bE _) (q0 := 0) rfl rfl rfl rfl hl (Nat.le_of_ble_eq_true rfl) dX1_swapUmbrellas_12 ⟨Nat.le_refl 0, Nat.le_refl 0⟩) (fun H locs w => ?_)
    refine q_istore_n (lv' := [(2, .int (jj (why σ p))), (0, .ref h), (1, .int (jj p))]) C hl dX1_swapUmbrellas_15 rfl (by decide) rfl (fun ls hl => ?_)
    refine q_iload_n C hl dX1_swapUmbrellas_16 rfl 0 rfl ?_
    refine q_if_eq (tgt := 25) C dX1_swapUmbrellas_17 (by decide) ⟨by omega, by omega⟩ (fun c2 => ?_) (fun c2 => ?_)
    · have c2 := c2
      refine q_aload_n C hl dX1_swapUmbrellas_25 rfl 1 rfl ?_
      refine q_getS C w.1 (fun w h => List.mem_cons_of_mem _ (List.mem_append_right _ h)) 4 (by decide) (List.mem_of_getElem? (i := 1) rfl) rfl dX1_swapUmbrellas_26 ?_
      refine q_iload_n C hl dX1_swapUmbrellas_29 rfl 2 rfl ?_
      refine q_runv C w (fx4 (by omega)) (q_S (As := [.ref (ad 4), .int (jj p)]) (rest := []) C w fs4 fX1_exchange gX1_swapUmbrellas_X1_exchange ⟨Nat.le_of_ble_eq_true rfl, Nat.le_of_ble_eq_true rfl⟩ (kX1_exchange l D cI cC cS (ad 4) (rr σ 4) p (by omega) _) rfl rfl hl (Nat.le_of_ble_eq_true rfl) dX1_swapUmbrellas_30 ⟨Nat.le_refl 0, Nat.le_refl 0⟩) (fun H locs w => ?_)
      refine q_aload_n C hl dX1_swapUmbrellas_33 rfl 1 rfl ?_
      refine q_getS C w.1 (fun w h => List.mem_cons_of_mem _ (List.mem_append_right _ h)) 5 (by decide) (List.mem_of_getElem? (i := 2) rfl) rfl dX1_swapUmbrellas_34 ?_
      refine q_iload_n C hl dX1_swapUmbrellas_37 rfl 2 rfl ?_
      refine q_dup2 C dX1_swapUmbrellas_38 rfl rfl ?_
      refine q_Sld C w.1 6 5 rfl ⟨by omega, by omega⟩ dX1_swapUmbrellas_39 ?_
      refine q_iconst C dX1_swapUmbrellas_40 ?_
      refine q_iadd C dX1_swapUmbrellas_41 ?_
      refine q_Sst C w 6 5 rfl ⟨by omega, by omega⟩ dX1_swapUmbrellas_42 (sR5 cI h ad _ _ _ (by omega)) (fun H locs w => ?_)
      refine q_aload_n C hl dX1_swapUmbrellas_43 rfl 1 rfl ?_
      refine q_getS C w.1 (fun w h => List.mem_cons_of_mem _ (List.mem_append_right _ h)) 5 (by decide) (List.mem_of_getElem? (i := 2) rfl) rfl dX1_swapUmbrellas_44 ?_
      refine q_iload_n C hl dX1_swapUmbrellas_47 rfl 2 rfl ?_
      refine q_iconst C dX1_swapUmbrellas_48 ?_
      refine q_iadd C dX1_swapUmbrellas_49 ?_
      refine q_dup2 C dX1_swapUmbrellas_50 rfl rfl ?_
      refine q_Sld C w.1 6 5 rfl ⟨by omega, by omega⟩ dX1_swapUmbrellas_51 ?_
      refine q_iconst C dX1_swapUmbrellas_52 ?_
      refine q_iadd C dX1_swapUmbrellas_53 ?_
      refine q_Sst C w 6 5 rfl ⟨by omega, by omega⟩ dX1_swapUmbrellas_54 (sR5 cI h ad _ _ _ (by omega)) (fun H locs w => ?_)
      refine q_aload_n C hl dX1_swapUmbrellas_55 rfl 1 rfl ?_
      refine q_dup C dX1_swapUmbrellas_56 rfl ?_
      refine q_getS C w.1 (fun w h => List.mem_cons_of_mem _ (List.mem_append_right _ h)) 14 (by decide) (List.mem_of_getElem? (i := 3) rfl) rfl dX1_swapUmbrellas_57 ?_
      refine q_iconst C dX1_swapUmbrellas_60 ?_
      refine q_iadd C dX1_swapUmbrellas_61 ?_
      refine q_putS C w (fun w h => List.mem_cons_of_mem _ (List.mem_append_right _ h)) 7 (by decide) (List.mem_of_getElem? (i := 3) rfl) rfl rfl dX1_swapUmbrellas_62 (fun H locs w => ?_)
      refine q_aload_n C hl dX1_swapUmbrellas_65 rfl 1 rfl ?_
      refine q_getS C w.1 (fun w h => List.mem_cons_of_mem _ (List.mem_append_right _ h)) 4 (by decide) (List.mem_of_getElem? (i := 1) rfl) rfl dX1_swapUmbrellas_66 ?_
      refine q_iload_n C hl dX1_swapUmbrellas_69 rfl 2 rfl ?_
      refine q_Sld C w.1 5 4 rfl ⟨by omega, by omega⟩ dX1_swapUmbrellas_70 ?_
      exact q_iret C w dX1_swapUmbrellas_71 (by unfold swu; rw [if_pos (by omega), if_neg (by omega)] <;> rfl) (by unfold swv; rw [if_pos (by omega)] <;> rfl)
    · have c2 := c2
      refine q_bipush C dX1_swapUmbrellas_20 (by decide) ?_
      refine q_iload_n C hl dX1_swapUmbrellas_22 rfl 0 rfl ?_
      refine q_isub C dX1_swapUmbrellas_23 ?_
      exact q_iret C w dX1_swapUmbrellas_24 (by unfold swu; rw [if_pos (by omega), if_pos (by omega)]) (by unfold swv; rw [if_neg (by omega)])
  · have c1 := c1
    refine q_iconst C dX1_swapUmbrellas_8 ?_
    exact q_iret C w dX1_swapUmbrellas_9 (by unfold swu; rw [if_neg (by omega)]) (by unfold swv; rw [if_neg (by omega)])

def rX1_changeSetting : Room := { frames := 1, cells := 0, slots := 0, locals := 22 }
theorem fX1_changeSetting : Fc yX1_changeSetting wsX1_changeSetting rX1_changeSetting cX1_changeSetting 4 (some .int) 2 := ⟨⟨_, rfl⟩, rfl, rfl, by decide +kernel, by decide +kernel, by decide +kernel⟩
set_option maxHeartbeats 4000000 in
set_option maxRecDepth 10000 in
theorem kX1_changeSetting (l : Launch) (D : va_G) (cI cC cS : ClassId) (h : Nat) (ad : Nat → Nat) (σ : Int → Int) (wh v : Int) (bY : Iv σ) (z_wh : -2147483648 ≤ wh ∧ wh ≤ 2147483647) (z_v : -2147483648 ≤ v ∧ v ≤ 2147483647) : Ki l yX1_changeSetting wsX1_changeSetting rX1_changeSetting D (tz cI cC cS) [.ref h, .int (jj wh), .int (jj v)] (cSt cI h ad σ) (setu σ wh v) (cSt cI h ad (setv σ wh v)) := by
  obtain ⟨bW, bE, bP, bc, bN, bU, b1, b9, b10, bv, bf⟩ := bY
  have hn := bW.1
  have hn2 := bW.2.1
  refine q_entry (cc := cX1_changeSetting) (nL := 4) (ret := (some .int)) (by decide) ⟨_, rfl⟩ (Nat.le_of_ble_eq_true rfl) ?_
  intro A pr en s m args below meth c C hin w ls hl
  have w := w
  have hl : lv_has ls 4 [(0, .ref h), (1, .int (jj wh)), (2, .int (jj v))] := hl
  refine q_iload_n C hl dX1_changeSetting_0 rfl 1 rfl ?_
  refine q_iconst C dX1_changeSetting_1 ?_
  refine q_iconst C dX1_changeSetting_2 ?_
  refine q_runi C w fr_nil (q_SN (As := [.int (jj wh), .int (jj 0), .int (jj 2)]) (rest := []) C w fr_nil fX3_isWithin gX1_changeSetting_X3_isWithin_n70 C.N.2.2.2.1 (List.mem_of_getElem? (i := 3) rfl) (List.mem_of_getElem? (i := 2) rfl) ⟨Nat.le_of_ble_eq_true rfl, Nat.le_of_ble_eq_true rfl⟩ (kX3_isWithin l D cI cC cS wh 0 2 ⟨by omega, by omega⟩ ⟨by omega, by omega⟩ ⟨by omega, by omega⟩ _) rfl rfl hl (Nat.le_of_ble_eq_true rfl) dX1_changeSetting_3 ⟨Nat.le_refl 0, Nat.le_refl 0⟩) (fun H locs w => ?_)
  refine q_ifz_ne (tgt := 11) C dX1_changeSetting_6 (by decide) (fun c1 => ?_) (fun c1 => ?_)
  · have c1 := c1
    have hsl : 0 ≤ slo wh ∧ slo wh ≤ 1 := by unfold slo; split <;> omega
    have hsh : 0 ≤ shi wh ∧ shi wh ≤ 99 := by unfold shi; (repeat' split) <;> omega
    refine q_iload_n C hl dX1_changeSetting_11 rfl 2 rfl ?_
    obtain ⟨t1, hZ1, hT1⟩ := C.F.1
    refine va_getsN (C := RX3) (ref := RX3) C.1 C.2.1 hZ1 w.2.2 C.ho (va_Nw.use rfl C.F.2.2.1) (fun _ h9 => h9) dX1_changeSetting_12 ?_
    refine q_iload_n C hl dX1_changeSetting_15 rfl 1 rfl ?_
    refine va_ti (v := .int (jj (slo wh))) C.1 C.2.1 hT1 w.2.2 (jj_in (by omega) (by omega) (by omega)) (by show Value.int (jj (slj _)) = _; rw [slj_at (by omega) (by omega)]) dX1_changeSetting_16 ?_
    obtain ⟨t2, hZ2, hT2⟩ := C.F.2.1
    refine va_getsN (C := RX3) (ref := RX3) C.1 C.2.1 hZ2 w.2.2 C.ho (va_Nw.use rfl C.F.2.2.2) (fun _ h9 => h9) dX1_changeSetting_17 ?_
    refine q_iload_n C hl dX1_changeSetting_20 rfl 1 rfl ?_
    refine va_ti (v := .int (jj (shi wh))) C.1 C.2.1 hT2 w.2.2 (jj_in (by omega) (by omega) (by omega)) (by show Value.int (jj (shj _)) = _; rw [shj_at (by omega) (by omega)]) dX1_changeSetting_21 ?_
    refine q_runi C w fr_nil (q_SN (As := [.int (jj v), .int (jj (slo wh)), .int (jj (shi wh))]) (rest := []) C w fr_nil fX3_isWithin gX1_changeSetting_X3_isWithin_n70 C.N.2.2.2.1 (List.mem_of_getElem? (i := 3) rfl) (List.mem_of_getElem? (i := 2) rfl) ⟨Nat.le_of_ble_eq_true rfl, Nat.le_of_ble_eq_true rfl⟩ (kX3_isWithin l D cI cC cS v (slo wh) (shi wh) ⟨by omega, by omega⟩ ⟨by omega, by omega⟩ ⟨by omega, by omega⟩ _) rfl rfl hl (Nat.le_of_ble_eq_true rfl) dX1_changeSetting_22 ⟨Nat.le_refl 0, Nat.le_refl 0⟩) (fun H locs w => ?_)
    refine q_ifz_ne (tgt := 31) C dX1_changeSetting_25 (by decide) (fun c2 => ?_) (fun c2 => ?_)
    · have c2 := c2
      have hse := stg_b b10 bv bf (x := wh) (by omega) (by omega)
      refine q_aload_n C hl dX1_changeSetting_31 rfl 0 rfl ?_
      refine q_getS C w.1 (fun w h => List.mem_cons_of_mem _ (List.mem_append_right _ h)) 6 (by decide) (List.mem_of_getElem? (i := 1) rfl) rfl dX1_changeSetting_32 ?_
      refine q_iload_n C hl dX1_changeSetting_35 rfl 1 rfl ?_
      refine q_Stld C w.1 ⟨by omega, by omega⟩ rfl dX1_changeSetting_36 ?_
      refine q_istore_n (lv' := [(3, .int (jj (σ (10 + wh)))), (0, .ref h), (1, .int (jj wh)), (2, .int (jj v))]) C hl dX1_changeSetting_37 rfl (by decide) rfl (fun ls hl => ?_)
      refine q_iload_n C hl dX1_changeSetting_38 rfl 0 rfl ?_
      refine q_iload_n C hl dX1_changeSetting_39 rfl 3 rfl ?_
      refine q_icmp_ne (tgt := 46) C dX1_changeSetting_40 (by decide) ⟨by omega, by omega⟩ ⟨by omega, by omega⟩ (fun c3 => ?_) (fun c3 => ?_)
      · have c3 := c3
        refine q_aload_n C hl dX1_changeSetting_46 rfl 1 rfl ?_
        refine q_getS C w.1 (fun w h => List.mem_cons_of_mem _ (List.mem_append_right _ h)) 6 (by decide) (List.mem_of_getElem? (i := 1) rfl) rfl dX1_changeSetting_47 ?_
        refine q_iload_n C hl dX1_changeSetting_50 rfl 2 rfl ?_
        refine q_iload_n C hl dX1_changeSetting_51 rfl 3 rfl ?_
        refine q_Stst C w ⟨by omega, by omega⟩ dX1_changeSetting_52 (fun H locs w => ?_)
        refine q_iload_n C hl dX1_changeSetting_53 rfl 0 rfl ?_
        exact q_iret C w dX1_changeSetting_54 (by unfold setu; (repeat' split) <;> omega) (by have hu : setu σ wh v = σ (10 + wh) := (by unfold setu; (repeat' split) <;> omega); unfold setv; rw [hu, if_pos (by omega)])
      · have c3 := c3
        refine q_bipush C dX1_changeSetting_43 (by decide) ?_
        exact q_iret C w dX1_changeSetting_45 (by unfold setu; (repeat' split) <;> omega) (by have hu : setu σ wh v = -5 := (by unfold setu; (repeat' split) <;> omega); unfold setv; rw [hu, if_neg (by omega)])
    · have c2 := c2
      refine q_bipush C dX1_changeSetting_28 (by decide) ?_
      exact q_iret C w dX1_changeSetting_30 (by unfold setu; (repeat' split) <;> omega) (by have hu : setu σ wh v = -2 := (by unfold setu; (repeat' split) <;> omega); unfold setv; rw [hu, if_neg (by omega)])
  · have c1 := c1
    refine q_iconst C dX1_changeSetting_9 ?_
    exact q_iret C w dX1_changeSetting_10 (by unfold setu; (repeat' split) <;> omega) (by have hu : setu σ wh v = -1 := (by unfold setu; (repeat' split) <;> omega); unfold setv; rw [hu, if_neg (by omega)])

def rX1_removeSoaked : Room := { frames := 3, cells := 0, slots := 0, locals := 102 }
theorem fX1_removeSoaked : Fc yX1_removeSoaked wsX1_removeSoaked rX1_removeSoaked cX1_removeSoaked 3 (some .int) 0 := ⟨⟨_, rfl⟩, rfl, rfl, by decide +kernel, by decide +kernel, by decide +kernel⟩
set_option maxHeartbeats 4000000 in
set_option maxRecDepth 10000 in
theorem kX1_removeSoaked (l : Launch) (D : va_G) (cI cC cS : ClassId) (h : Nat) (ad : Nat → Nat) (σ : Int → Int)  (bn : 0 ≤ σ 0 ∧ σ 0 ≤ 16) (hP0 : ∀ x : Int, 0 ≤ x → x < σ 0 → Pv σ x) : Ki l yX1_removeSoaked wsX1_removeSoaked rX1_removeSoaked D (tz cI cC cS) [.ref h] (cSt cI h ad σ) (σ 0 - soA σ 0) (cSt cI h ad (soW σ)) := by
  refine q_entry (cc := cX1_removeSoaked) (nL := 3) (ret := (some .int)) (by decide) ⟨_, rfl⟩ (Nat.le_of_ble_eq_true rfl) ?_
  intro A pr en s m args below meth c C hin w ls hl
  have w := w
  have hl : lv_has ls 3 [(0, .ref h)] := hl
  refine q_aload_n C hl dX1_removeSoaked_0 rfl 0 rfl ?_
  refine q_getS C w.1 (fun w h => List.mem_cons_of_mem _ (List.mem_append_right _ h)) 7 (by decide) (List.mem_of_getElem? (i := 1) rfl) rfl dX1_removeSoaked_1 ?_
  refine q_istore_n (lv' := [(1, .int (jj (σ 0))), (0, .ref h)]) C hl dX1_removeSoaked_4 rfl (by decide) rfl (fun ls hl => ?_)
  refine q_aload_n C hl dX1_removeSoaked_5 rfl 1 rfl ?_
  refine q_getS C w.1 (fun w h => List.mem_cons_of_mem _ (List.mem_append_right _ h)) 7 (by decide) (List.mem_of_getElem? (i := 1) rfl) rfl dX1_removeSoaked_6 ?_
  refine q_iconst C dX1_removeSoaked_9 ?_
  refine q_isub C dX1_removeSoaked_10 ?_
  refine q_istore_n (lv' := [(2, .int (jj ((σ 0) - 1))), (1, .int (jj (σ 0))), (0, .ref h)]) C hl dX1_removeSoaked_11 rfl (by decide) rfl (fun ls hl => ?_)
  have loop12 : ∀ (n12 : Nat) (j : Int) (i2 : Int), (0 ≤ j) → (j ≤ σ 0) → (i2 = σ 0 - 1 - j) → (σ 0 - j).toNat < n12 → ∀ (H : Heap) (locs : List Loc), Wd D A s (cSt cI h ad (rms rmv (σ 0) σ j)) H locs → ∀ ls : Array Slot, lv_has ls 3 [(0, .ref h), (1, .int (jj (σ 0))), (2, .int (jj i2))] → W pr l en rX1_removeSoaked s m args below meth c H locs 0 0 (MQ below (Qi D (tz cI cC cS) (σ 0 - soA σ 0) (cSt cI h ad (soW σ)) A) args s 0 0 A) (F0 m 12 ls []) := by
    intro n12
    induction n12 with
    | zero => intro j i2 hj0 hj1 hi2 hm; exact absurd hm (Nat.not_lt_zero _)
    | succ n12 ih12 =>
      intro j i2 hj0 hj1 hi2 hm12 H locs w ls hl
      have hR := rms_i (rmo_ok rmv_o) (σ := σ) (n := σ 0) rfl bn.2 j hj0 hj1
      refine q_iload_n C hl dX1_removeSoaked_12 rfl 2 rfl ?_
      refine q_if_lt (tgt := 42) C dX1_removeSoaked_13 (by decide) ⟨by omega, by omega⟩ (fun c1 => ?_) (fun c1 => ?_)
      · have c1 := c1
        refine q_aload_n C hl dX1_removeSoaked_42 rfl 0 rfl ?_
        refine q_dup C dX1_removeSoaked_43 rfl ?_
        refine q_getS C w.1 (fun w h => List.mem_cons_of_mem _ (List.mem_append_right _ h)) 10 (by decide) (List.mem_of_getElem? (i := 4) rfl) rfl dX1_removeSoaked_44 ?_
        refine q_iload_n C hl dX1_removeSoaked_47 rfl 1 rfl ?_
        refine q_aload_n C hl dX1_removeSoaked_48 rfl 0 rfl ?_
        refine q_getS C w.1 (fun w h => List.mem_cons_of_mem _ (List.mem_append_right _ h)) 7 (by decide) (List.mem_of_getElem? (i := 1) rfl) rfl dX1_removeSoaked_49 ?_
        refine q_isub C dX1_removeSoaked_52 ?_
        refine q_iadd C dX1_removeSoaked_53 ?_
        refine q_putS C w (fun w h => List.mem_cons_of_mem _ (List.mem_append_right _ h)) 3 (by decide) (List.mem_of_getElem? (i := 4) rfl) rfl rfl dX1_removeSoaked_54 (fun H locs w => ?_)
        refine q_iload_n C hl dX1_removeSoaked_57 rfl 1 rfl ?_
        refine q_aload_n C hl dX1_removeSoaked_58 rfl 0 rfl ?_
        refine q_getS C w.1 (fun w h => List.mem_cons_of_mem _ (List.mem_append_right _ h)) 7 (by decide) (List.mem_of_getElem? (i := 1) rfl) rfl dX1_removeSoaked_59 ?_
        refine q_isub C dX1_removeSoaked_62 ?_
        exact q_iret C w dX1_removeSoaked_63 (by rw [up_n _ _ (by omega)]; unfold soA; rw [show j = σ 0 by omega]) (by unfold soW soA; rw [show j = σ 0 by omega] <;> rfl)
      · have c1 := c1
        have f1 := hR.2.2 (13 + 6 * i2 + 1) (by omega) (by omega)
        have f2 := hR.2.2 (13 + 6 * i2 + 2) (by omega) (by omega)
        have f3 := (hP0 i2 (by omega) (by omega)).2.1
        have f4 := (hP0 i2 (by omega) (by omega)).2.2.1
        refine q_aload_n C hl dX1_removeSoaked_16 rfl 0 rfl ?_
        refine q_getS C w.1 (fun w h => List.mem_cons_of_mem _ (List.mem_append_right _ h)) 1 (by decide) (List.mem_of_getElem? (i := 2) rfl) rfl dX1_removeSoaked_17 ?_
        refine q_iload_n C hl dX1_removeSoaked_20 rfl 2 rfl ?_
        refine q_Sld C w.1 2 1 rfl ⟨by omega, by omega⟩ dX1_removeSoaked_21 ?_
        refine q_aload_n C hl dX1_removeSoaked_22 rfl 0 rfl ?_
        refine q_getS C w.1 (fun w h => List.mem_cons_of_mem _ (List.mem_append_right _ h)) 2 (by decide) (List.mem_of_getElem? (i := 3) rfl) rfl dX1_removeSoaked_23 ?_
        refine q_iload_n C hl dX1_removeSoaked_26 rfl 2 rfl ?_
        refine q_Sld C w.1 3 2 rfl ⟨by omega, by omega⟩ dX1_removeSoaked_27 ?_
        refine q_icmp_le (tgt := 36) C dX1_removeSoaked_28 (by decide) ⟨by omega, by omega⟩ ⟨by omega, by omega⟩ (fun c2 => ?_) (fun c2 => ?_)
        · have c2 := c2
          refine q_iinc (lv' := [(2, .int (jj (i2 + (-1)))), (0, .ref h), (1, .int (jj (σ 0)))]) C hl dX1_removeSoaked_36 2 rfl (by decide) rfl (fun ls hl => ?_)
          refine q_goto (tgt := 12) C dX1_removeSoaked_39 (by decide) ?_
          exact ih12 (j + 1) (i2 + (-1)) (by omega) (by omega) (by omega) (by omega) _ _ (by rw [rms_s rmv (σ 0) _ hj0]; unfold rmf; rw [show σ 0 - 1 - j = i2 by omega]; first | (rw [if_pos (by omega)]; exact w) | (rw [if_neg (by omega)]; exact w)) ls (lv_sub hl [1, 2, 0] rfl)
        · have c2 := c2
          refine q_aload_n C hl dX1_removeSoaked_31 rfl 0 rfl ?_
          refine q_iload_n C hl dX1_removeSoaked_32 rfl 2 rfl ?_
          refine q_runv C w fr_all (q_V (As := [.int (jj i2)]) (rest := []) C w fr_all fX1_remove gX1_removeSoaked_X1_remove rfl ⟨Nat.le_of_ble_eq_true rfl, Nat.le_of_ble_eq_true rfl⟩ (kX1_remove l D cI cC cS h ad (rms rmv (σ 0) σ j) i2 (by omega) _) (q0 := 0) rfl rfl rfl rfl hl (Nat.le_of_ble_eq_true rfl) dX1_removeSoaked_33 ⟨Nat.le_refl 0, Nat.le_refl 0⟩) (fun H locs w => ?_)
          refine q_iinc (lv' := [(2, .int (jj (i2 + (-1)))), (0, .ref h), (1, .int (jj (σ 0)))]) C hl dX1_removeSoaked_36 2 rfl (by decide) rfl (fun ls hl => ?_)
          refine q_goto (tgt := 12) C dX1_removeSoaked_39 (by decide) ?_
          exact ih12 (j + 1) (i2 + (-1)) (by omega) (by omega) (by omega) (by omega) _ _ (by rw [rms_s rmv (σ 0) _ hj0]; unfold rmf; rw [show σ 0 - 1 - j = i2 by omega]; first | (rw [if_pos (by omega)]; exact w) | (rw [if_neg (by omega)]; exact w)) ls (lv_sub hl [1, 2, 0] rfl)
  exact loop12 _ 0 (σ 0 - 1) (by omega) (by omega) (by omega) (Nat.lt_succ_self _) _ _ w ls (lv_sub hl [2, 1, 0] rfl)

def rX1_rain : Room := { frames := 5, cells := 0, slots := 0, locals := 124 }
theorem fX1_rain : Fc yX1_rain wsX1_rain rX1_rain cX1_rain 4 (some .int) 2 := ⟨⟨_, rfl⟩, rfl, rfl, by decide +kernel, by decide +kernel, by decide +kernel⟩
set_option maxHeartbeats 4000000 in
set_option maxRecDepth 10000 in
theorem kX1_rain (l : Launch) (D : va_G) (cI cC cS : ClassId) (h : Nat) (ad : Nat → Nat) (σ : Int → Int) (d side : Int) (bY : Iv σ) (z_d : -2147483648 ≤ d ∧ d ≤ 2147483647) (z_side : -2147483648 ≤ side ∧ side ≤ 2147483647) : Ki l yX1_rain wsX1_rain rX1_rain D (tz cI cC cS) [.ref h, .int (jj d), .int (jj side)] (cSt cI h ad σ) (guA σ d side) (cSt cI h ad (guW σ d side)) := by
  have hY := bY
  obtain ⟨bW, bE, bP, bc, bN, bU, b1, b9, b10, bv, bf⟩ := bY
  have hn := bW.1
  have hn2 := bW.2.1
  refine q_entry (cc := cX1_rain) (nL := 4) (ret := (some .int)) (by decide) ⟨_, rfl⟩ (Nat.le_of_ble_eq_true rfl) ?_
  intro A pr en s m args below meth c C hin w ls hl
  have w := w
  have hl : lv_has ls 4 [(0, .ref h), (1, .int (jj d)), (2, .int (jj side))] := hl
  refine q_iload_n C hl dX1_rain_0 rfl 1 rfl ?_
  refine q_iload_n C hl dX1_rain_1 rfl 2 rfl ?_
  refine q_runi C w fr_nil (q_SN (As := [.int (jj d), .int (jj side)]) (rest := []) C w fr_nil fX3_isGust gX1_rain_X3_isGust_n99 C.N.2.2.2.2.1 (List.mem_of_getElem? (i := 5) rfl) (List.mem_of_getElem? (i := 4) rfl) ⟨Nat.le_of_ble_eq_true rfl, Nat.le_of_ble_eq_true rfl⟩ (kX3_isGust l D cI cC cS d side (by omega) (by omega) _) rfl rfl hl (Nat.le_of_ble_eq_true rfl) dX1_rain_2 ⟨Nat.le_refl 0, Nat.le_refl 0⟩) (fun H locs w => ?_)
  refine q_ifz_ne (tgt := 11) C dX1_rain_5 (by decide) (fun c1 => ?_) (fun c1 => ?_)
  · have c1 := c1
    refine q_aload_n C hl dX1_rain_11 rfl 0 rfl ?_
    refine q_getS C w.1 (fun w h => List.mem_cons_of_mem _ (List.mem_append_right _ h)) 7 (by decide) (List.mem_of_getElem? (i := 1) rfl) rfl dX1_rain_12 ?_
    refine q_if_ne (tgt := 21) C dX1_rain_15 (by decide) ⟨by omega, by omega⟩ (fun c2 => ?_) (fun c2 => ?_)
    · have c2 := c2
      refine q_iconst C dX1_rain_21 ?_
      refine q_istore_n (lv' := [(3, .int (jj 0)), (0, .ref h), (1, .int (jj d)), (2, .int (jj side))]) C hl dX1_rain_22 rfl (by decide) rfl (fun ls hl => ?_)
      have loop23 : ∀ (n23 : Nat) (i : Int), (0 ≤ i) → (i ≤ σ 0) → (σ 0 - i).toNat < n23 → ∀ (H : Heap) (locs : List Loc), Wd D A s (cSt cI h ad (gw σ d side i)) H locs → ∀ ls : Array Slot, lv_has ls 4 [(0, .ref h), (1, .int (jj d)), (2, .int (jj side)), (3, .int (jj i))] → W pr l en rX1_rain s m args below meth c H locs 0 0 (MQ below (Qi D (tz cI cC cS) (guA σ d side) (cSt cI h ad (guW σ d side)) A) args s 0 0 A) (F0 m 23 ls []) := by
        intro n23
        induction n23 with
        | zero => intro i hi0 hi1 hm; exact absurd hm (Nat.not_lt_zero _)
        | succ n23 ih23 =>
          intro i hi0 hi1 hm23 H locs w ls hl
          have e0 : gw σ d side i 0 = σ 0 := gw_n σ d side i (by omega)
          refine q_iload_n C hl dX1_rain_23 rfl 3 rfl ?_
          refine q_aload_n C hl dX1_rain_24 rfl 0 rfl ?_
          refine q_getS C w.1 (fun w h => List.mem_cons_of_mem _ (List.mem_append_right _ h)) 7 (by decide) (List.mem_of_getElem? (i := 1) rfl) rfl dX1_rain_25 ?_
          refine q_icmp_ge (tgt := 50) C dX1_rain_28 (by decide) ⟨by omega, by omega⟩ ⟨by omega, by omega⟩ (fun c3 => ?_) (fun c3 => ?_)
          · have c3 := c3
            have w : Wd D A s (cSt cI h ad (gw σ d side (σ 0))) H locs := by rw [show i = σ 0 by omega] at w; exact w
            refine q_aload_n C hl dX1_rain_50 rfl 0 rfl ?_
            refine q_dup C dX1_rain_51 rfl ?_
            refine q_getS C w.1 (fun w h => List.mem_cons_of_mem _ (List.mem_append_right _ h)) 15 (by decide) (List.mem_of_getElem? (i := 3) rfl) rfl dX1_rain_52 ?_
            refine q_iconst C dX1_rain_55 ?_
            refine q_iadd C dX1_rain_56 ?_
            refine q_putS C w (fun w h => List.mem_cons_of_mem _ (List.mem_append_right _ h)) 8 (by decide) (List.mem_of_getElem? (i := 3) rfl) rfl rfl dX1_rain_57 (fun H locs w => ?_)
            have w : Wd D A s (cSt cI h ad (g8 σ d side)) H locs := w
            have e8 := g8_0 σ d side
            refine q_aload_n C hl dX1_rain_60 rfl 0 rfl ?_
            refine q_runi C w fr_all (q_V (As := []) (rest := []) C w fr_all fX1_removeSoaked gX1_rain_X1_removeSoaked rfl ⟨Nat.le_of_ble_eq_true rfl, Nat.le_of_ble_eq_true rfl⟩ (kX1_removeSoaked l D cI cC cS h ad (g8 σ d side)  (by omega) (g8_P hY (by omega) (by omega)) _) (q0 := 0) rfl rfl rfl rfl hl (Nat.le_of_ble_eq_true rfl) dX1_rain_61 ⟨Nat.le_refl 0, Nat.le_refl 0⟩) (fun H locs w => ?_)
            exact q_iret C w dX1_rain_64 (by unfold guA; (repeat' split) <;> omega) (by unfold guW; rw [if_pos (by omega)])
          · have c3 := c3
            have hq := bE i hi0 (by omega)
            have e1 : gw σ d side i (13 + 6 * i + 1) = σ (13 + 6 * i + 1) := gw_n σ d side i (by omega)
            refine q_aload_n C hl dX1_rain_31 rfl 0 rfl ?_
            refine q_getS C w.1 (fun w h => List.mem_cons_of_mem _ (List.mem_append_right _ h)) 1 (by decide) (List.mem_of_getElem? (i := 2) rfl) rfl dX1_rain_32 ?_
            refine q_iload_n C hl dX1_rain_35 rfl 3 rfl ?_
            refine q_aload_n C hl dX1_rain_36 rfl 0 rfl ?_
            refine q_iload_n C hl dX1_rain_37 rfl 3 rfl ?_
            refine q_iload_n C hl dX1_rain_38 rfl 1 rfl ?_
            refine q_iload_n C hl dX1_rain_39 rfl 2 rfl ?_
            refine q_runi C w fr_all (q_V (As := [.int (jj i), .int (jj d), .int (jj side)]) (rest := [.int (jj i), .ref (ad 1)]) C w fr_all fX1_wetnessAfter gX1_rain_X1_wetnessAfter rfl ⟨Nat.le_of_ble_eq_true rfl, Nat.le_of_ble_eq_true rfl⟩ (kX1_wetnessAfter l D cI cC cS h ad (gw σ d side i) i d side (gw_W bW d side i) (by omega) (by omega) (by omega) (by omega) _) (q0 := 0) rfl rfl rfl rfl hl (Nat.le_of_ble_eq_true rfl) dX1_rain_40 ⟨Nat.le_refl 0, Nat.le_refl 0⟩) (fun H locs w => ?_)
            refine q_Sst C w 2 1 rfl ⟨by omega, by omega⟩ dX1_rain_43 (sR1 cI h ad _ _ _ (by omega)) (fun H locs w => ?_)
            refine q_iinc (lv' := [(3, .int (jj (i + 1))), (0, .ref h), (1, .int (jj d)), (2, .int (jj side))]) C hl dX1_rain_44 3 rfl (by decide) rfl (fun ls hl => ?_)
            refine q_goto (tgt := 23) C dX1_rain_47 (by decide) ?_
            exact ih23 (i + 1) (by omega) (by omega) (by omega) _ _ (by rw [gw_s σ d side hi0] at w; exact w) ls (lv_sub hl [1, 2, 3, 0] rfl)
      exact loop23 _ 0 (by omega) (by omega) (Nat.lt_succ_self _) _ _ (by rw [gw_0]; exact w) ls (lv_sub hl [1, 2, 3, 0] rfl)
    · have c2 := c2
      refine q_bipush C dX1_rain_18 (by decide) ?_
      exact q_iret C w dX1_rain_20 (by unfold guA; (repeat' split) <;> omega) (by unfold guW; rw [if_neg (by omega)])
  · have c1 := c1
    refine q_bipush C dX1_rain_8 (by decide) ?_
    exact q_iret C w dX1_rain_10 (by unfold guA; (repeat' split) <;> omega) (by unfold guW; rw [if_neg (by omega)])

def rX1_dry : Room := { frames := 1, cells := 0, slots := 0, locals := 22 }
theorem fX1_dry : Fc yX1_dry wsX1_dry rX1_dry cX1_dry 4 (some .int) 1 := ⟨⟨_, rfl⟩, rfl, rfl, by decide +kernel, by decide +kernel, by decide +kernel⟩
set_option maxHeartbeats 4000000 in
set_option maxRecDepth 10000 in
theorem kX1_dry (l : Launch) (D : va_G) (cI cC cS : ClassId) (h : Nat) (ad : Nat → Nat) (σ : Int → Int) (mi : Int) (bY : Iv σ) (z_mi : -2147483648 ≤ mi ∧ mi ≤ 2147483647) : Ki l yX1_dry wsX1_dry rX1_dry D (tz cI cC cS) [.ref h, .int (jj mi)] (cSt cI h ad σ) (pu2 σ mi) (cSt cI h ad (pvW σ mi)) := by
  obtain ⟨bW, bE, bP, bc, bN, bU, b1, b9, b10, bv, bf⟩ := bY
  have hn := bW.1
  have hn2 := bW.2.1
  have s0 : up σ 9 (σ 9 + mi) 0 = σ 0 := up_n _ _ (by omega)
  have s10 : up σ 9 (σ 9 + mi) 10 = σ 10 := up_n _ _ (by omega)
  refine q_entry (cc := cX1_dry) (nL := 4) (ret := (some .int)) (by decide) ⟨_, rfl⟩ (Nat.le_of_ble_eq_true rfl) ?_
  intro A pr en s m args below meth c C hin w ls hl
  have w := w
  have hl : lv_has ls 4 [(0, .ref h), (1, .int (jj mi))] := hl
  refine q_iload_n C hl dX1_dry_0 rfl 1 rfl ?_
  refine q_iconst C dX1_dry_1 ?_
  refine q_bipush C dX1_dry_2 (by decide) ?_
  refine q_runi C w fr_nil (q_SN (As := [.int (jj mi), .int (jj 1), .int (jj 99)]) (rest := []) C w fr_nil fX3_isWithin gX1_dry_X3_isWithin_n70 C.N.2.2.2.1 (List.mem_of_getElem? (i := 11) rfl) (List.mem_of_getElem? (i := 10) rfl) ⟨Nat.le_of_ble_eq_true rfl, Nat.le_of_ble_eq_true rfl⟩ (kX3_isWithin l D cI cC cS mi 1 99 ⟨by omega, by omega⟩ ⟨by omega, by omega⟩ ⟨by omega, by omega⟩ _) rfl rfl hl (Nat.le_of_ble_eq_true rfl) dX1_dry_4 ⟨Nat.le_refl 0, Nat.le_refl 0⟩) (fun H locs w => ?_)
  refine q_ifz_ne (tgt := 13) C dX1_dry_7 (by decide) (fun c1 => ?_) (fun c1 => ?_)
  · have c1 := c1
    refine q_aload_n C hl dX1_dry_13 rfl 0 rfl ?_
    refine q_getS C w.1 (fun w h => List.mem_cons_of_mem _ (List.mem_append_right _ h)) 16 (by decide) (List.mem_of_getElem? (i := 1) rfl) rfl dX1_dry_14 ?_
    refine q_iload_n C hl dX1_dry_17 rfl 1 rfl ?_
    refine q_iadd C dX1_dry_18 ?_
    refine lv_ldc (v := jj 99999) C.1 C.2.1 C.ho (C.ts _ (List.mem_of_getElem? (i := 2) rfl)) dX1_dry_19 ?_
    refine q_icmp_le (tgt := 27) C dX1_dry_21 (by decide) ⟨by omega, by omega⟩ ⟨by omega, by omega⟩ (fun c2 => ?_) (fun c2 => ?_)
    · have c2 := c2
      refine q_aload_n C hl dX1_dry_27 rfl 0 rfl ?_
      refine q_dup C dX1_dry_28 rfl ?_
      refine q_getS C w.1 (fun w h => List.mem_cons_of_mem _ (List.mem_append_right _ h)) 16 (by decide) (List.mem_of_getElem? (i := 1) rfl) rfl dX1_dry_29 ?_
      refine q_iload_n C hl dX1_dry_32 rfl 1 rfl ?_
      refine q_iadd C dX1_dry_33 ?_
      refine q_putS C w (fun w h => List.mem_cons_of_mem _ (List.mem_append_right _ h)) 9 (by decide) (List.mem_of_getElem? (i := 1) rfl) rfl rfl dX1_dry_34 (fun H locs w => ?_)
      refine q_iconst C dX1_dry_37 ?_
      refine q_istore_n (lv' := [(2, .int (jj 0)), (0, .ref h), (1, .int (jj mi))]) C hl dX1_dry_38 rfl (by decide) rfl (fun ls hl => ?_)
      refine q_iconst C dX1_dry_39 ?_
      refine q_istore_n (lv' := [(3, .int (jj 0)), (2, .int (jj 0)), (0, .ref h), (1, .int (jj mi))]) C hl dX1_dry_40 rfl (by decide) rfl (fun ls hl => ?_)
      have loop41 : ∀ (n41 : Nat) (i : Int) (a : Int), (0 ≤ i) → (i ≤ σ 0) → (a = drn σ mi i ∧ 0 ≤ a ∧ a ≤ i) → (σ 0 - i).toNat < n41 → ∀ (H : Heap) (locs : List Loc), Wd D A s (cSt cI h ad (dr (up σ 9 (σ 9 + mi)) mi i)) H locs → ∀ ls : Array Slot, lv_has ls 4 [(0, .ref h), (1, .int (jj mi)), (2, .int (jj a)), (3, .int (jj i))] → W pr l en rX1_dry s m args below meth c H locs 0 0 (MQ below (Qi D (tz cI cC cS) (pu2 σ mi) (cSt cI h ad (pvW σ mi)) A) args s 0 0 A) (F0 m 41 ls []) := by
        intro n41
        induction n41 with
        | zero => intro i a hi0 hi1 ha hm; exact absurd hm (Nat.not_lt_zero _)
        | succ n41 ih41 =>
          intro i a hi0 hi1 ha hm41 H locs w ls hl
          have e0 : dr (up σ 9 (σ 9 + mi)) mi i 0 = σ 0 := (dr_n (up σ 9 (σ 9 + mi)) mi i (by omega)).trans s0
          refine q_iload_n C hl dX1_dry_41 rfl 3 rfl ?_
          refine q_aload_n C hl dX1_dry_42 rfl 0 rfl ?_
          refine q_getS C w.1 (fun w h => List.mem_cons_of_mem _ (List.mem_append_right _ h)) 7 (by decide) (List.mem_of_getElem? (i := 3) rfl) rfl dX1_dry_43 ?_
          refine q_icmp_ge (tgt := 92) C dX1_dry_46 (by decide) ⟨by omega, by omega⟩ ⟨by omega, by omega⟩ (fun c3 => ?_) (fun c3 => ?_)
          · have c3 := c3
            refine q_iload_n C hl dX1_dry_92 rfl 2 rfl ?_
            exact q_iret C w dX1_dry_93 (by unfold pu2 pau; rw [if_pos (by omega), if_neg (by omega), ha.1, show i = σ 0 by omega]) (by unfold pvW; rw [if_pos (by omega), show i = σ 0 by omega])
          · have c3 := c3
            have hq := bE i hi0 (by omega)
            have e1 : dr (up σ 9 (σ 9 + mi)) mi i (13 + 6 * i + 1) = σ (13 + 6 * i + 1) := (dr_n (up σ 9 (σ 9 + mi)) mi i (by omega)).trans (up_n _ _ (by omega))
            have e10 : dr (up σ 9 (σ 9 + mi)) mi i 10 = σ 10 := (dr_n (up σ 9 (σ 9 + mi)) mi i (by omega)).trans s10
            have hm0 := mul_b (a := mi) (b := σ 10) (A := 99) (B := 50) (by omega) (by omega) b10.1 b10.2
            have hmm : mi * dr (up σ 9 (σ 9 + mi)) mi i 10 = mi * σ 10 := by rw [e10]
            refine q_aload_n C hl dX1_dry_49 rfl 0 rfl ?_
            refine q_getS C w.1 (fun w h => List.mem_cons_of_mem _ (List.mem_append_right _ h)) 1 (by decide) (List.mem_of_getElem? (i := 4) rfl) rfl dX1_dry_50 ?_
            refine q_iload_n C hl dX1_dry_53 rfl 3 rfl ?_
            refine q_iconst C dX1_dry_54 ?_
            refine q_aload_n C hl dX1_dry_55 rfl 0 rfl ?_
            refine q_getS C w.1 (fun w h => List.mem_cons_of_mem _ (List.mem_append_right _ h)) 1 (by decide) (List.mem_of_getElem? (i := 4) rfl) rfl dX1_dry_56 ?_
            refine q_iload_n C hl dX1_dry_59 rfl 3 rfl ?_
            refine q_Sld C w.1 2 1 rfl ⟨by omega, by omega⟩ dX1_dry_60 ?_
            refine q_iload_n C hl dX1_dry_61 rfl 1 rfl ?_
            refine q_aload_n C hl dX1_dry_62 rfl 0 rfl ?_
            refine q_getS C w.1 (fun w h => List.mem_cons_of_mem _ (List.mem_append_right _ h)) 6 (by decide) (List.mem_of_getElem? (i := 5) rfl) rfl dX1_dry_63 ?_
            refine q_iconst C dX1_dry_66 ?_
            refine q_Stld (v := (dr (up σ 9 (σ 9 + mi)) mi i) 10) C w.1 ⟨by omega, by omega⟩ rfl dX1_dry_67 ?_
            refine q_imul C dX1_dry_68 ?_
            refine q_isub C dX1_dry_69 ?_
            refine q_mmax (rest := [.int (jj i), .ref (ad 1)]) C hl (List.mem_of_getElem? (i := 6) rfl) (List.mem_of_getElem? (i := 7) rfl) (List.mem_of_getElem? (i := 8) rfl) (List.mem_of_getElem? (i := 9) rfl) ⟨by omega, by omega⟩ ⟨by omega, by omega⟩ (Nat.le_of_ble_eq_true rfl) (Nat.le_of_ble_eq_true rfl) (Nat.le_refl 0) (Nat.le_refl 0) dX1_dry_70 ?_
            refine q_Sst C w 2 1 rfl ⟨by omega, by omega⟩ dX1_dry_73 (sR1 cI h ad _ _ _ (by omega)) (fun H locs w => ?_)
            have hsx : (up σ 9 (σ 9 + mi)) (13 + 6 * i + 1) = σ (13 + 6 * i + 1) := up_n _ _ (by omega)
            have hmx : mi * (up σ 9 (σ 9 + mi)) 10 = mi * σ 10 := by rw [s10]
            rw [dr_s (up σ 9 (σ 9 + mi)) mi hi0 (by omega)] at w
            have e2 : dr (up σ 9 (σ 9 + mi)) mi (i + 1) (13 + 6 * i + 1) = max 0 (σ (13 + 6 * i + 1) - mi * σ 10) := by unfold dr; rw [if_pos (by omega), hsx, s10]
            refine q_aload_n C hl dX1_dry_74 rfl 0 rfl ?_
            refine q_getS C w.1 (fun w h => List.mem_cons_of_mem _ (List.mem_append_right _ h)) 1 (by decide) (List.mem_of_getElem? (i := 4) rfl) rfl dX1_dry_75 ?_
            refine q_iload_n C hl dX1_dry_78 rfl 3 rfl ?_
            refine q_Sld C w.1 2 1 rfl ⟨by omega, by omega⟩ dX1_dry_79 ?_
            refine q_if_ne (tgt := 86) C dX1_dry_80 (by decide) ⟨by omega, by omega⟩ (fun c4 => ?_) (fun c4 => ?_)
            · have c4 := c4
              refine q_iinc (lv' := [(3, .int (jj (i + 1))), (0, .ref h), (1, .int (jj mi)), (2, .int (jj a))]) C hl dX1_dry_86 3 rfl (by decide) rfl (fun ls hl => ?_)
              refine q_goto (tgt := 41) C dX1_dry_89 (by decide) ?_
              exact ih41 (i + 1) a (by omega) (by omega) ⟨by rw [drn_s σ mi hi0, ← ha.1]; unfold bI; split <;> omega, by omega, by omega⟩ (by omega) _ _ w ls (lv_sub hl [1, 2, 3, 0] rfl)
            · have c4 := c4
              refine q_iinc (lv' := [(2, .int (jj (a + 1))), (0, .ref h), (1, .int (jj mi)), (3, .int (jj i))]) C hl dX1_dry_83 2 rfl (by decide) rfl (fun ls hl => ?_)
              refine q_iinc (lv' := [(3, .int (jj (i + 1))), (2, .int (jj (a + 1))), (0, .ref h), (1, .int (jj mi))]) C hl dX1_dry_86 3 rfl (by decide) rfl (fun ls hl => ?_)
              refine q_goto (tgt := 41) C dX1_dry_89 (by decide) ?_
              exact ih41 (i + 1) (a + 1) (by omega) (by omega) ⟨by rw [drn_s σ mi hi0, ← ha.1]; unfold bI; split <;> omega, by omega, by omega⟩ (by omega) _ _ w ls (lv_sub hl [2, 3, 1, 0] rfl)
      exact loop41 _ 0 0 (by omega) (by omega) ⟨rfl, by omega, by omega⟩ (Nat.lt_succ_self _) _ _ (by rw [dr_0]; exact w) ls (lv_sub hl [2, 3, 1, 0] rfl)
    · have c2 := c2
      refine q_bipush C dX1_dry_24 (by decide) ?_
      exact q_iret C w dX1_dry_26 (by unfold pu2 pau; rw [if_pos (by omega), if_pos (by omega)]) (by unfold pvW; rw [if_neg (by omega)])
  · have c1 := c1
    refine q_bipush C dX1_dry_10 (by decide) ?_
    exact q_iret C w dX1_dry_12 (by unfold pu2; (repeat' split) <;> omega) (by unfold pvW; rw [if_neg (by omega)])

def rX1_serveFirst : Room := { frames := 4, cells := 0, slots := 0, locals := 102 }
theorem fX1_serveFirst : Fc yX1_serveFirst wsX1_serveFirst rX1_serveFirst cX1_serveFirst 4 (some .int) 0 := ⟨⟨_, rfl⟩, rfl, rfl, by decide +kernel, by decide +kernel, by decide +kernel⟩
set_option maxHeartbeats 4000000 in
set_option maxRecDepth 10000 in
theorem kX1_serveFirst (l : Launch) (D : va_G) (cI cC cS : ClassId) (h : Nat) (ad : Nat → Nat) (σ : Int → Int)  (bY : Iv σ) : Ki l yX1_serveFirst wsX1_serveFirst rX1_serveFirst D (tz cI cC cS) [.ref h] (cSt cI h ad σ) (seu σ) (cSt cI h ad (sevW σ)) := by
  obtain ⟨bW, bE, bP, bc, bN, bU, b1, b9, b10, bv, bf⟩ := bY
  have hn := bW.1
  have hn2 := bW.2.1
  refine q_entry (cc := cX1_serveFirst) (nL := 4) (ret := (some .int)) (by decide) ⟨_, rfl⟩ (Nat.le_of_ble_eq_true rfl) ?_
  intro A pr en s m args below meth c C hin w ls hl
  have w := w
  have hl : lv_has ls 4 [(0, .ref h)] := hl
  refine q_aload_n C hl dX1_serveFirst_0 rfl 0 rfl ?_
  refine q_getS C w.1 (fun w h => List.mem_cons_of_mem _ (List.mem_append_right _ h)) 7 (by decide) (List.mem_of_getElem? (i := 1) rfl) rfl dX1_serveFirst_1 ?_
  refine q_if_ne (tgt := 10) C dX1_serveFirst_4 (by decide) ⟨by omega, by omega⟩ (fun c1 => ?_) (fun c1 => ?_)
  · have c1 := c1
    have hs := srv_b (σ := σ) (by omega) bv
    have hd := dri_b σ (n := srv σ) (by omega)
    have hco := bc (dri σ (srv σ)) (by omega) (by omega)
    refine q_aload_n C hl dX1_serveFirst_10 rfl 0 rfl ?_
    refine q_runi C w fr_all (q_V (As := []) (rest := []) C w fr_all fX1_peopleToServe gX1_serveFirst_X1_peopleToServe rfl ⟨Nat.le_of_ble_eq_true rfl, Nat.le_of_ble_eq_true rfl⟩ (kX1_peopleToServe l D cI cC cS h ad σ  (by omega) (by omega) _) (q0 := 0) rfl rfl rfl rfl hl (Nat.le_of_ble_eq_true rfl) dX1_serveFirst_11 ⟨Nat.le_refl 0, Nat.le_refl 0⟩) (fun H locs w => ?_)
    refine q_istore_n (lv' := [(1, .int (jj (srv σ))), (0, .ref h)]) C hl dX1_serveFirst_14 rfl (by decide) rfl (fun ls hl => ?_)
    refine q_aload_n C hl dX1_serveFirst_15 rfl 1 rfl ?_
    refine q_aload_n C hl dX1_serveFirst_16 rfl 1 rfl ?_
    refine q_runi C w fr_all (q_V (As := []) (rest := [.ref h]) C w fr_all fX1_driestToServe gX1_serveFirst_X1_driestToServe rfl ⟨Nat.le_of_ble_eq_true rfl, Nat.le_of_ble_eq_true rfl⟩ (kX1_driestToServe l D cI cC cS h ad σ  (by omega) (by omega) bE _) (q0 := 0) rfl rfl rfl rfl hl (Nat.le_of_ble_eq_true rfl) dX1_serveFirst_17 ⟨Nat.le_refl 0, Nat.le_refl 0⟩) (fun H locs w => ?_)
    refine q_runi C w fr_all (q_V (As := [.int (jj (dri σ (srv σ)))]) (rest := []) C w fr_all fX1_paidFrom gX1_serveFirst_X1_paidFrom rfl ⟨Nat.le_of_ble_eq_true rfl, Nat.le_of_ble_eq_true rfl⟩ (kX1_paidFrom l D cI cC cS h ad σ (dri σ (srv σ)) (by omega) (by omega) (by omega) (by omega) (by omega) _) (q0 := 0) rfl rfl rfl rfl hl (Nat.le_of_ble_eq_true rfl) dX1_serveFirst_20 ⟨Nat.le_refl 0, Nat.le_refl 0⟩) (fun H locs w => ?_)
    rw [show min (σ (13 + 6 * dri σ (srv σ) + 3)) (srv σ * σ 12) = cpd σ from rfl]
    refine q_istore_n (lv' := [(2, .int (jj (cpd σ))), (1, .int (jj (srv σ))), (0, .ref h)]) C hl dX1_serveFirst_23 rfl (by decide) rfl (fun ls hl => ?_)
    refine q_aload_n C hl dX1_serveFirst_24 rfl 2 rfl ?_
    refine q_dup C dX1_serveFirst_25 rfl ?_
    refine q_getS C w.1 (fun w h => List.mem_cons_of_mem _ (List.mem_append_right _ h)) 12 (by decide) (List.mem_of_getElem? (i := 2) rfl) rfl dX1_serveFirst_26 ?_
    refine q_iload_n C hl dX1_serveFirst_29 rfl 0 rfl ?_
    refine q_iadd C dX1_serveFirst_30 ?_
    refine q_putS C w (fun w h => List.mem_cons_of_mem _ (List.mem_append_right _ h)) 5 (by decide) (List.mem_of_getElem? (i := 2) rfl) rfl rfl dX1_serveFirst_31 (fun H locs w => ?_)
    have w : Wd D A s (cSt cI h ad (sa1 σ)) H locs := w
    have x0 : sa1 σ 0 = σ 0 := up_n _ _ (by omega)
    have x11 : sa1 σ 11 = σ 11 := up_n _ _ (by omega)
    refine q_aload_n C hl dX1_serveFirst_34 rfl 2 rfl ?_
    refine q_dup C dX1_serveFirst_35 rfl ?_
    refine q_getS C w.1 (fun w h => List.mem_cons_of_mem _ (List.mem_append_right _ h)) 13 (by decide) (List.mem_of_getElem? (i := 3) rfl) rfl dX1_serveFirst_36 ?_
    refine q_aload_n C hl dX1_serveFirst_39 rfl 2 rfl ?_
    refine q_runi C w fr_all (q_V (As := []) (rest := [.int (jj ((sa1 σ) 6)), .ref h]) C w fr_all fX1_fareForAll gX1_serveFirst_X1_fareForAll rfl ⟨Nat.le_of_ble_eq_true rfl, Nat.le_of_ble_eq_true rfl⟩ (kX1_fareForAll l D cI cC cS h ad (sa1 σ)  (by omega) (by omega) _) (q0 := 0) rfl rfl rfl rfl hl (Nat.le_of_ble_eq_true rfl) dX1_serveFirst_40 ⟨Nat.le_refl 0, Nat.le_refl 0⟩) (fun H locs w => ?_)
    refine q_iload_n C hl dX1_serveFirst_43 rfl 0 rfl ?_
    refine q_isub C dX1_serveFirst_44 ?_
    refine q_iadd C dX1_serveFirst_45 ?_
    refine q_putS C w (fun w h => List.mem_cons_of_mem _ (List.mem_append_right _ h)) 6 (by decide) (List.mem_of_getElem? (i := 3) rfl) rfl rfl dX1_serveFirst_46 (fun H locs w => ?_)
    have w : Wd D A s (cSt cI h ad (sa2 σ)) H locs := w
    refine q_aload_n C hl dX1_serveFirst_49 rfl 2 rfl ?_
    refine q_dup C dX1_serveFirst_50 rfl ?_
    refine q_getS C w.1 (fun w h => List.mem_cons_of_mem _ (List.mem_append_right _ h)) 11 (by decide) (List.mem_of_getElem? (i := 4) rfl) rfl dX1_serveFirst_51 ?_
    refine q_iload_n C hl dX1_serveFirst_54 rfl 1 rfl ?_
    refine q_iadd C dX1_serveFirst_55 ?_
    refine q_putS C w (fun w h => List.mem_cons_of_mem _ (List.mem_append_right _ h)) 4 (by decide) (List.mem_of_getElem? (i := 4) rfl) rfl rfl dX1_serveFirst_56 (fun H locs w => ?_)
    have w : Wd D A s (cSt cI h ad (sa3 σ)) H locs := w
    refine q_iload_n C hl dX1_serveFirst_59 rfl 1 rfl ?_
    refine q_iconst C dX1_serveFirst_60 ?_
    refine q_isub C dX1_serveFirst_61 ?_
    refine q_istore_n (lv' := [(3, .int (jj ((srv σ) - 1))), (2, .int (jj (cpd σ))), (1, .int (jj (srv σ))), (0, .ref h)]) C hl dX1_serveFirst_62 rfl (by decide) rfl (fun ls hl => ?_)
    have loop63 : ∀ (n63 : Nat) (j : Int) (i : Int), (0 ≤ j) → (j ≤ srv σ) → (i = srv σ - 1 - j) → (srv σ - j).toNat < n63 → ∀ (H : Heap) (locs : List Loc), Wd D A s (cSt cI h ad (rmk (sa3 σ) (srv σ) j)) H locs → ∀ ls : Array Slot, lv_has ls 4 [(0, .ref h), (1, .int (jj (srv σ))), (2, .int (jj (cpd σ))), (3, .int (jj i))] → W pr l en rX1_serveFirst s m args below meth c H locs 0 0 (MQ below (Qi D (tz cI cC cS) (seu σ) (cSt cI h ad (sevW σ)) A) args s 0 0 A) (F0 m 63 ls []) := by
      intro n63
      induction n63 with
      | zero => intro j i hj0 hj1 hi2 hm; exact absurd hm (Nat.not_lt_zero _)
      | succ n63 ih63 =>
        intro j i hj0 hj1 hi2 hm63 H locs w ls hl
        refine q_iload_n C hl dX1_serveFirst_63 rfl 3 rfl ?_
        refine q_if_lt (tgt := 78) C dX1_serveFirst_64 (by decide) ⟨by omega, by omega⟩ (fun c2 => ?_) (fun c2 => ?_)
        · have c2 := c2
          refine q_iload_n C hl dX1_serveFirst_78 rfl 2 rfl ?_
          exact q_iret C w dX1_serveFirst_79 (by unfold seu; rw [if_neg (by omega)]) (by unfold sevW; rw [if_neg (by omega), show j = srv σ by omega])
        · have c2 := c2
          refine q_aload_n C hl dX1_serveFirst_67 rfl 0 rfl ?_
          refine q_iload_n C hl dX1_serveFirst_68 rfl 3 rfl ?_
          refine q_runv C w fr_all (q_V (As := [.int (jj i)]) (rest := []) C w fr_all fX1_remove gX1_serveFirst_X1_remove rfl ⟨Nat.le_of_ble_eq_true rfl, Nat.le_of_ble_eq_true rfl⟩ (kX1_remove l D cI cC cS h ad (rmk (sa3 σ) (srv σ) j) i (by omega) _) (q0 := 0) rfl rfl rfl rfl hl (Nat.le_of_ble_eq_true rfl) dX1_serveFirst_69 ⟨Nat.le_refl 0, Nat.le_refl 0⟩) (fun H locs w => ?_)
          refine q_iinc (lv' := [(3, .int (jj (i + (-1)))), (0, .ref h), (1, .int (jj (srv σ))), (2, .int (jj (cpd σ)))]) C hl dX1_serveFirst_72 3 rfl (by decide) rfl (fun ls hl => ?_)
          refine q_goto (tgt := 63) C dX1_serveFirst_75 (by decide) ?_
          exact ih63 (j + 1) (i + (-1)) (by omega) (by omega) (by omega) (by omega) _ _ (by rw [rmk_s (sa3 σ) (srv σ) hj0, show srv σ - 1 - j = i by omega]; exact w) ls (lv_sub hl [1, 2, 3, 0] rfl)
    exact loop63 _ 0 (srv σ - 1) (by omega) (by omega) (by omega) (Nat.lt_succ_self _) _ _ w ls (lv_sub hl [3, 2, 1, 0] rfl)
  · have c1 := c1
    refine q_bipush C dX1_serveFirst_7 (by decide) ?_
    exact q_iret C w dX1_serveFirst_9 (by unfold seu; rw [if_pos (by omega)]) (by unfold sevW; rw [if_pos (by omega)])
