/-! The model: set. -/
def rX4_set : Room := { frames := 2, cells := 0, slots := 0, locals := 41 }
theorem fX4_set : Fc yX4_set wsX4_set rX4_set cX4_set 4 (some .int) 2 := ⟨⟨_, rfl⟩, rfl, rfl, by decide +kernel, by decide +kernel, by decide +kernel⟩
set_option maxHeartbeats 4000000 in
set_option maxRecDepth 10000 in
theorem kX4_set (l : Launch) (D : va_G) (cI cC cS : ClassId) (h : Nat) (ad : Nat → Nat) (σ α ς β τ q : Int → Int) (wh v : Int) (bY : Iv σ) (bk : 0 ≤ q 5 ∧ q 5 ≤ 4) (z_wh : -2147483648 ≤ wh ∧ wh ≤ 2147483647) (z_v : -2147483648 ≤ v ∧ v ≤ 2147483647) : Ki l yX4_set wsX4_set rX4_set D (tz cI cC cS) [.ref h, .int (jj wh), .int (jj v)] (mW cI h ad σ α ς β τ q) (setu σ wh v) (mW cI h ad (setv σ wh v) (if 0 ≤ setu σ wh v then σ else α) ς (if 0 ≤ setu σ wh v then rcB β σ (q 5) else β) τ (if 0 ≤ setu σ wh v then rcQ q else q)) := by
  obtain ⟨bW, bE, bP, bc, bN, bU, b1, b9, b10, bv, bf⟩ := bY
  have hn := bW.1
  have hn2 := bW.2.1
  refine q_entry (cc := cX4_set) (nL := 4) (ret := (some .int)) (by decide) ⟨_, rfl⟩ (Nat.le_of_ble_eq_true rfl) ?_
  intro A pr en s m args below meth c C hin w ls hl
  have w := w
  have hl : lv_has ls 4 [(0, .ref h), (1, .int (jj wh)), (2, .int (jj v))] := hl
  refine q_iload_n C hl dX4_set_0 rfl 1 rfl ?_
  refine q_iconst C dX4_set_1 ?_
  refine q_iconst C dX4_set_2 ?_
  refine q_runi C w fr_nil (q_S (As := [.int (jj wh), .int (jj 0), .int (jj 2)]) (rest := []) C w fr_nil fX4_in gX4_set_X4_in ⟨Nat.le_of_ble_eq_true rfl, Nat.le_of_ble_eq_true rfl⟩ (kX4_in l D cI cC cS wh 0 2 ⟨by omega, by omega⟩ ⟨by omega, by omega⟩ ⟨by omega, by omega⟩ _) rfl rfl hl (Nat.le_of_ble_eq_true rfl) dX4_set_3 ⟨Nat.le_refl 0, Nat.le_refl 0⟩) (fun H locs w => ?_)
  refine q_ifz_ne (tgt := 11) C dX4_set_6 (by decide) (fun c1 => ?_) (fun c1 => ?_)
  · have c1 := c1
    refine q_iload_n C hl dX4_set_11 rfl 2 rfl ?_
    refine q_iload_n C hl dX4_set_12 rfl 1 rfl ?_
    refine q_iconst C dX4_set_13 ?_
    refine q_icmp_ne (tgt := 21) C dX4_set_14 (by decide) ⟨by omega, by omega⟩ ⟨by omega, by omega⟩ (fun c2 => ?_) (fun c2 => ?_)
    · have c2 := c2
      refine q_iconst C dX4_set_21 ?_
      refine q_iload_n C hl dX4_set_22 rfl 1 rfl ?_
      refine q_if_ne (tgt := 31) C dX4_set_23 (by decide) ⟨by omega, by omega⟩ (fun c3 => ?_) (fun c3 => ?_)
      · have c3 := c3
        refine q_iload_n C hl dX4_set_31 rfl 1 rfl ?_
        refine q_iconst C dX4_set_32 ?_
        refine q_icmp_ne (tgt := 40) C dX4_set_33 (by decide) ⟨by omega, by omega⟩ ⟨by omega, by omega⟩ (fun c4 => ?_) (fun c4 => ?_)
        · have c4 := c4
          refine q_bipush C dX4_set_40 (by decide) ?_
          refine q_runi C w fr_nil (q_S (As := [.int (jj v), .int (jj 0), .int (jj 99)]) (rest := []) C w fr_nil fX4_in gX4_set_X4_in ⟨Nat.le_of_ble_eq_true rfl, Nat.le_of_ble_eq_true rfl⟩ (kX4_in l D cI cC cS v 0 99 ⟨by omega, by omega⟩ ⟨by omega, by omega⟩ ⟨by omega, by omega⟩ _) rfl rfl hl (Nat.le_of_ble_eq_true rfl) dX4_set_42 ⟨Nat.le_refl 0, Nat.le_refl 0⟩) (fun H locs w => ?_)
          refine q_ifz_ne (tgt := 51) C dX4_set_45 (by decide) (fun c5 => ?_) (fun c5 => ?_)
          · have c5 := c5
            have hst := stg_b (σ := σ) b10 bv bf (x := wh) (by omega) (by omega)
            refine q_aload_n C hl dX4_set_51 rfl 0 rfl ?_
            refine q_getM C w.1 (fun w h => List.mem_cons_of_mem _ (List.mem_append_right _ h)) 0 (by decide) (List.mem_of_getElem? (i := 1) rfl) rfl dX4_set_52 ?_
            refine q_bipush C dX4_set_55 (by decide) ?_
            refine q_iload_n C hl dX4_set_57 rfl 1 rfl ?_
            refine q_iadd C dX4_set_58 ?_
            refine q_Mld C w.1 ⟨by omega, by omega⟩ dX4_set_59 ?_
            refine q_istore_n (lv' := [(3, .int (jj (σ (10 + wh)))), (0, .ref h), (1, .int (jj wh)), (2, .int (jj v))]) C hl dX4_set_60 rfl (by decide) rfl (fun ls hl => ?_)
            refine q_iload_n C hl dX4_set_61 rfl 0 rfl ?_
            refine q_iload_n C hl dX4_set_62 rfl 3 rfl ?_
            refine q_icmp_ne (tgt := 69) C dX4_set_63 (by decide) ⟨by omega, by omega⟩ ⟨by omega, by omega⟩ (fun c6 => ?_) (fun c6 => ?_)
            · have c6 := c6
              refine q_aload_n C hl dX4_set_69 rfl 1 rfl ?_
              refine q_runv C w fr_all (q_V (As := []) (rest := []) C w fr_all fX4_know gX4_set_X4_know rfl ⟨Nat.le_of_ble_eq_true rfl, Nat.le_of_ble_eq_true rfl⟩ (kX4_know l D cI cC cS h ad σ α ς β τ q  (by omega) _) (q0 := 0) rfl rfl rfl rfl hl (Nat.le_of_ble_eq_true rfl) dX4_set_70 ⟨Nat.le_refl 0, Nat.le_refl 0⟩) (fun H locs w => ?_)
              refine q_aload_n C hl dX4_set_73 rfl 1 rfl ?_
              refine q_getM C w.1 (fun w h => List.mem_cons_of_mem _ (List.mem_append_right _ h)) 0 (by decide) (List.mem_of_getElem? (i := 1) rfl) rfl dX4_set_74 ?_
              refine q_bipush C dX4_set_77 (by decide) ?_
              refine q_iload_n C hl dX4_set_79 rfl 2 rfl ?_
              refine q_iadd C dX4_set_80 ?_
              refine q_iload_n C hl dX4_set_81 rfl 3 rfl ?_
              refine q_Mst C w ⟨by omega, by omega⟩ dX4_set_82 (fun H locs w => ?_)
              refine q_iload_n C hl dX4_set_83 rfl 0 rfl ?_
              exact q_iret C w dX4_set_84 (by unfold setu slo shi; (repeat' split) <;> omega) (by have hu : setu σ wh v = σ (10 + wh) := (by unfold setu slo shi; (repeat' split) <;> omega); unfold setv; rw [hu, if_pos (by omega), if_pos (by omega), if_pos (by omega), if_pos (by omega)])
            · have c6 := c6
              refine q_bipush C dX4_set_66 (by decide) ?_
              exact q_iret C w dX4_set_68 (by unfold setu slo shi; (repeat' split) <;> omega) (by have hu : setu σ wh v = -5 := (by unfold setu slo shi; (repeat' split) <;> omega); unfold setv; rw [hu, if_neg (by omega), if_neg (by omega), if_neg (by omega), if_neg (by omega)])
          · have c5 := c5
            refine q_bipush C dX4_set_48 (by decide) ?_
            exact q_iret C w dX4_set_50 (by unfold setu slo shi; (repeat' split) <;> omega) (by have hu : setu σ wh v = -2 := (by unfold setu slo shi; (repeat' split) <;> omega); unfold setv; rw [hu, if_neg (by omega), if_neg (by omega), if_neg (by omega), if_neg (by omega)])
        · have c4 := c4
          refine q_iconst C dX4_set_36 ?_
          refine q_goto (tgt := 42) C dX4_set_37 (by decide) ?_
          refine q_runi C w fr_nil (q_S (As := [.int (jj v), .int (jj 0), .int (jj 4)]) (rest := []) C w fr_nil fX4_in gX4_set_X4_in ⟨Nat.le_of_ble_eq_true rfl, Nat.le_of_ble_eq_true rfl⟩ (kX4_in l D cI cC cS v 0 4 ⟨by omega, by omega⟩ ⟨by omega, by omega⟩ ⟨by omega, by omega⟩ _) rfl rfl hl (Nat.le_of_ble_eq_true rfl) dX4_set_42 ⟨Nat.le_refl 0, Nat.le_refl 0⟩) (fun H locs w => ?_)
          refine q_ifz_ne (tgt := 51) C dX4_set_45 (by decide) (fun c7 => ?_) (fun c7 => ?_)
          · have c7 := c7
            have hst := stg_b (σ := σ) b10 bv bf (x := wh) (by omega) (by omega)
            refine q_aload_n C hl dX4_set_51 rfl 0 rfl ?_
            refine q_getM C w.1 (fun w h => List.mem_cons_of_mem _ (List.mem_append_right _ h)) 0 (by decide) (List.mem_of_getElem? (i := 1) rfl) rfl dX4_set_52 ?_
            refine q_bipush C dX4_set_55 (by decide) ?_
            refine q_iload_n C hl dX4_set_57 rfl 1 rfl ?_
            refine q_iadd C dX4_set_58 ?_
            refine q_Mld C w.1 ⟨by omega, by omega⟩ dX4_set_59 ?_
            refine q_istore_n (lv' := [(3, .int (jj (σ (10 + wh)))), (0, .ref h), (1, .int (jj wh)), (2, .int (jj v))]) C hl dX4_set_60 rfl (by decide) rfl (fun ls hl => ?_)
            refine q_iload_n C hl dX4_set_61 rfl 0 rfl ?_
            refine q_iload_n C hl dX4_set_62 rfl 3 rfl ?_
            refine q_icmp_ne (tgt := 69) C dX4_set_63 (by decide) ⟨by omega, by omega⟩ ⟨by omega, by omega⟩ (fun c8 => ?_) (fun c8 => ?_)
            · have c8 := c8
              refine q_aload_n C hl dX4_set_69 rfl 1 rfl ?_
              refine q_runv C w fr_all (q_V (As := []) (rest := []) C w fr_all fX4_know gX4_set_X4_know rfl ⟨Nat.le_of_ble_eq_true rfl, Nat.le_of_ble_eq_true rfl⟩ (kX4_know l D cI cC cS h ad σ α ς β τ q  (by omega) _) (q0 := 0) rfl rfl rfl rfl hl (Nat.le_of_ble_eq_true rfl) dX4_set_70 ⟨Nat.le_refl 0, Nat.le_refl 0⟩) (fun H locs w => ?_)
              refine q_aload_n C hl dX4_set_73 rfl 1 rfl ?_
              refine q_getM C w.1 (fun w h => List.mem_cons_of_mem _ (List.mem_append_right _ h)) 0 (by decide) (List.mem_of_getElem? (i := 1) rfl) rfl dX4_set_74 ?_
              refine q_bipush C dX4_set_77 (by decide) ?_
              refine q_iload_n C hl dX4_set_79 rfl 2 rfl ?_
              refine q_iadd C dX4_set_80 ?_
              refine q_iload_n C hl dX4_set_81 rfl 3 rfl ?_
              refine q_Mst C w ⟨by omega, by omega⟩ dX4_set_82 (fun H locs w => ?_)
              refine q_iload_n C hl dX4_set_83 rfl 0 rfl ?_
              exact q_iret C w dX4_set_84 (by unfold setu slo shi; (repeat' split) <;> omega) (by have hu : setu σ wh v = σ (10 + wh) := (by unfold setu slo shi; (repeat' split) <;> omega); unfold setv; rw [hu, if_pos (by omega), if_pos (by omega), if_pos (by omega), if_pos (by omega)])
            · have c8 := c8
              refine q_bipush C dX4_set_66 (by decide) ?_
              exact q_iret C w dX4_set_68 (by unfold setu slo shi; (repeat' split) <;> omega) (by have hu : setu σ wh v = -5 := (by unfold setu slo shi; (repeat' split) <;> omega); unfold setv; rw [hu, if_neg (by omega), if_neg (by omega), if_neg (by omega), if_neg (by omega)])
          · have c7 := c7
            refine q_bipush C dX4_set_48 (by decide) ?_
            exact q_iret C w dX4_set_50 (by unfold setu slo shi; (repeat' split) <;> omega) (by have hu : setu σ wh v = -2 := (by unfold setu slo shi; (repeat' split) <;> omega); unfold setv; rw [hu, if_neg (by omega), if_neg (by omega), if_neg (by omega), if_neg (by omega)])
      · have c3 := c3
        refine q_bipush C dX4_set_26 (by decide) ?_
        refine q_goto (tgt := 42) C dX4_set_28 (by decide) ?_
        refine q_runi C w fr_nil (q_S (As := [.int (jj v), .int (jj 0), .int (jj 50)]) (rest := []) C w fr_nil fX4_in gX4_set_X4_in ⟨Nat.le_of_ble_eq_true rfl, Nat.le_of_ble_eq_true rfl⟩ (kX4_in l D cI cC cS v 0 50 ⟨by omega, by omega⟩ ⟨by omega, by omega⟩ ⟨by omega, by omega⟩ _) rfl rfl hl (Nat.le_of_ble_eq_true rfl) dX4_set_42 ⟨Nat.le_refl 0, Nat.le_refl 0⟩) (fun H locs w => ?_)
        refine q_ifz_ne (tgt := 51) C dX4_set_45 (by decide) (fun c9 => ?_) (fun c9 => ?_)
        · have c9 := c9
          have hst := stg_b (σ := σ) b10 bv bf (x := wh) (by omega) (by omega)
          refine q_aload_n C hl dX4_set_51 rfl 0 rfl ?_
          refine q_getM C w.1 (fun w h => List.mem_cons_of_mem _ (List.mem_append_right _ h)) 0 (by decide) (List.mem_of_getElem? (i := 1) rfl) rfl dX4_set_52 ?_
          refine q_bipush C dX4_set_55 (by decide) ?_
          refine q_iload_n C hl dX4_set_57 rfl 1 rfl ?_
          refine q_iadd C dX4_set_58 ?_
          refine q_Mld C w.1 ⟨by omega, by omega⟩ dX4_set_59 ?_
          refine q_istore_n (lv' := [(3, .int (jj (σ (10 + wh)))), (0, .ref h), (1, .int (jj wh)), (2, .int (jj v))]) C hl dX4_set_60 rfl (by decide) rfl (fun ls hl => ?_)
          refine q_iload_n C hl dX4_set_61 rfl 0 rfl ?_
          refine q_iload_n C hl dX4_set_62 rfl 3 rfl ?_
          refine q_icmp_ne (tgt := 69) C dX4_set_63 (by decide) ⟨by omega, by omega⟩ ⟨by omega, by omega⟩ (fun c10 => ?_) (fun c10 => ?_)
          · have c10 := c10
            refine q_aload_n C hl dX4_set_69 rfl 1 rfl ?_
            refine q_runv C w fr_all (q_V (As := []) (rest := []) C w fr_all fX4_know gX4_set_X4_know rfl ⟨Nat.le_of_ble_eq_true rfl, Nat.le_of_ble_eq_true rfl⟩ (kX4_know l D cI cC cS h ad σ α ς β τ q  (by omega) _) (q0 := 0) rfl rfl rfl rfl hl (Nat.le_of_ble_eq_true rfl) dX4_set_70 ⟨Nat.le_refl 0, Nat.le_refl 0⟩) (fun H locs w => ?_)
            refine q_aload_n C hl dX4_set_73 rfl 1 rfl ?_
            refine q_getM C w.1 (fun w h => List.mem_cons_of_mem _ (List.mem_append_right _ h)) 0 (by decide) (List.mem_of_getElem? (i := 1) rfl) rfl dX4_set_74 ?_
            refine q_bipush C dX4_set_77 (by decide) ?_
            refine q_iload_n C hl dX4_set_79 rfl 2 rfl ?_
            refine q_iadd C dX4_set_80 ?_
            refine q_iload_n C hl dX4_set_81 rfl 3 rfl ?_
            refine q_Mst C w ⟨by omega, by omega⟩ dX4_set_82 (fun H locs w => ?_)
            refine q_iload_n C hl dX4_set_83 rfl 0 rfl ?_
            exact q_iret C w dX4_set_84 (by unfold setu slo shi; (repeat' split) <;> omega) (by have hu : setu σ wh v = σ (10 + wh) := (by unfold setu slo shi; (repeat' split) <;> omega); unfold setv; rw [hu, if_pos (by omega), if_pos (by omega), if_pos (by omega), if_pos (by omega)])
          · have c10 := c10
            refine q_bipush C dX4_set_66 (by decide) ?_
            exact q_iret C w dX4_set_68 (by unfold setu slo shi; (repeat' split) <;> omega) (by have hu : setu σ wh v = -5 := (by unfold setu slo shi; (repeat' split) <;> omega); unfold setv; rw [hu, if_neg (by omega), if_neg (by omega), if_neg (by omega), if_neg (by omega)])
        · have c9 := c9
          refine q_bipush C dX4_set_48 (by decide) ?_
          exact q_iret C w dX4_set_50 (by unfold setu slo shi; (repeat' split) <;> omega) (by have hu : setu σ wh v = -2 := (by unfold setu slo shi; (repeat' split) <;> omega); unfold setv; rw [hu, if_neg (by omega), if_neg (by omega), if_neg (by omega), if_neg (by omega)])
    · have c2 := c2
      refine q_iconst C dX4_set_17 ?_
      refine q_goto (tgt := 22) C dX4_set_18 (by decide) ?_
      refine q_iload_n C hl dX4_set_22 rfl 1 rfl ?_
      refine q_if_ne (tgt := 31) C dX4_set_23 (by decide) ⟨by omega, by omega⟩ (fun c11 => ?_) (fun c11 => ?_)
      · have c11 := c11
        refine q_iload_n C hl dX4_set_31 rfl 1 rfl ?_
        refine q_iconst C dX4_set_32 ?_
        refine q_icmp_ne (tgt := 40) C dX4_set_33 (by decide) ⟨by omega, by omega⟩ ⟨by omega, by omega⟩ (fun c12 => ?_) (fun c12 => ?_)
        · have c12 := c12
          refine q_bipush C dX4_set_40 (by decide) ?_
          refine q_runi C w fr_nil (q_S (As := [.int (jj v), .int (jj 1), .int (jj 99)]) (rest := []) C w fr_nil fX4_in gX4_set_X4_in ⟨Nat.le_of_ble_eq_true rfl, Nat.le_of_ble_eq_true rfl⟩ (kX4_in l D cI cC cS v 1 99 ⟨by omega, by omega⟩ ⟨by omega, by omega⟩ ⟨by omega, by omega⟩ _) rfl rfl hl (Nat.le_of_ble_eq_true rfl) dX4_set_42 ⟨Nat.le_refl 0, Nat.le_refl 0⟩) (fun H locs w => ?_)
          refine q_ifz_ne (tgt := 51) C dX4_set_45 (by decide) (fun c13 => ?_) (fun c13 => ?_)
          · have c13 := c13
            have hst := stg_b (σ := σ) b10 bv bf (x := wh) (by omega) (by omega)
            refine q_aload_n C hl dX4_set_51 rfl 0 rfl ?_
            refine q_getM C w.1 (fun w h => List.mem_cons_of_mem _ (List.mem_append_right _ h)) 0 (by decide) (List.mem_of_getElem? (i := 1) rfl) rfl dX4_set_52 ?_
            refine q_bipush C dX4_set_55 (by decide) ?_
            refine q_iload_n C hl dX4_set_57 rfl 1 rfl ?_
            refine q_iadd C dX4_set_58 ?_
            refine q_Mld C w.1 ⟨by omega, by omega⟩ dX4_set_59 ?_
            refine q_istore_n (lv' := [(3, .int (jj (σ (10 + wh)))), (0, .ref h), (1, .int (jj wh)), (2, .int (jj v))]) C hl dX4_set_60 rfl (by decide) rfl (fun ls hl => ?_)
            refine q_iload_n C hl dX4_set_61 rfl 0 rfl ?_
            refine q_iload_n C hl dX4_set_62 rfl 3 rfl ?_
            refine q_icmp_ne (tgt := 69) C dX4_set_63 (by decide) ⟨by omega, by omega⟩ ⟨by omega, by omega⟩ (fun c14 => ?_) (fun c14 => ?_)
            · have c14 := c14
              refine q_aload_n C hl dX4_set_69 rfl 1 rfl ?_
              refine q_runv C w fr_all (q_V (As := []) (rest := []) C w fr_all fX4_know gX4_set_X4_know rfl ⟨Nat.le_of_ble_eq_true rfl, Nat.le_of_ble_eq_true rfl⟩ (kX4_know l D cI cC cS h ad σ α ς β τ q  (by omega) _) (q0 := 0) rfl rfl rfl rfl hl (Nat.le_of_ble_eq_true rfl) dX4_set_70 ⟨Nat.le_refl 0, Nat.le_refl 0⟩) (fun H locs w => ?_)
              refine q_aload_n C hl dX4_set_73 rfl 1 rfl ?_
              refine q_getM C w.1 (fun w h => List.mem_cons_of_mem _ (List.mem_append_right _ h)) 0 (by decide) (List.mem_of_getElem? (i := 1) rfl) rfl dX4_set_74 ?_
              refine q_bipush C dX4_set_77 (by decide) ?_
              refine q_iload_n C hl dX4_set_79 rfl 2 rfl ?_
              refine q_iadd C dX4_set_80 ?_
              refine q_iload_n C hl dX4_set_81 rfl 3 rfl ?_
              refine q_Mst C w ⟨by omega, by omega⟩ dX4_set_82 (fun H locs w => ?_)
              refine q_iload_n C hl dX4_set_83 rfl 0 rfl ?_
              exact q_iret C w dX4_set_84 (by unfold setu slo shi; (repeat' split) <;> omega) (by have hu : setu σ wh v = σ (10 + wh) := (by unfold setu slo shi; (repeat' split) <;> omega); unfold setv; rw [hu, if_pos (by omega), if_pos (by omega), if_pos (by omega), if_pos (by omega)])
            · have c14 := c14
              refine q_bipush C dX4_set_66 (by decide) ?_
              exact q_iret C w dX4_set_68 (by unfold setu slo shi; (repeat' split) <;> omega) (by have hu : setu σ wh v = -5 := (by unfold setu slo shi; (repeat' split) <;> omega); unfold setv; rw [hu, if_neg (by omega), if_neg (by omega), if_neg (by omega), if_neg (by omega)])
          · have c13 := c13
            refine q_bipush C dX4_set_48 (by decide) ?_
            exact q_iret C w dX4_set_50 (by unfold setu slo shi; (repeat' split) <;> omega) (by have hu : setu σ wh v = -2 := (by unfold setu slo shi; (repeat' split) <;> omega); unfold setv; rw [hu, if_neg (by omega), if_neg (by omega), if_neg (by omega), if_neg (by omega)])
        · have c12 := c12
          refine q_iconst C dX4_set_36 ?_
          refine q_goto (tgt := 42) C dX4_set_37 (by decide) ?_
          refine q_runi C w fr_nil (q_S (As := [.int (jj v), .int (jj 1), .int (jj 4)]) (rest := []) C w fr_nil fX4_in gX4_set_X4_in ⟨Nat.le_of_ble_eq_true rfl, Nat.le_of_ble_eq_true rfl⟩ (kX4_in l D cI cC cS v 1 4 ⟨by omega, by omega⟩ ⟨by omega, by omega⟩ ⟨by omega, by omega⟩ _) rfl rfl hl (Nat.le_of_ble_eq_true rfl) dX4_set_42 ⟨Nat.le_refl 0, Nat.le_refl 0⟩) (fun H locs w => ?_)
          refine q_ifz_ne (tgt := 51) C dX4_set_45 (by decide) (fun c15 => ?_) (fun c15 => ?_)
          · have c15 := c15
            have hst := stg_b (σ := σ) b10 bv bf (x := wh) (by omega) (by omega)
            refine q_aload_n C hl dX4_set_51 rfl 0 rfl ?_
            refine q_getM C w.1 (fun w h => List.mem_cons_of_mem _ (List.mem_append_right _ h)) 0 (by decide) (List.mem_of_getElem? (i := 1) rfl) rfl dX4_set_52 ?_
            refine q_bipush C dX4_set_55 (by decide) ?_
            refine q_iload_n C hl dX4_set_57 rfl 1 rfl ?_
            refine q_iadd C dX4_set_58 ?_
            refine q_Mld C w.1 ⟨by omega, by omega⟩ dX4_set_59 ?_
            refine q_istore_n (lv' := [(3, .int (jj (σ (10 + wh)))), (0, .ref h), (1, .int (jj wh)), (2, .int (jj v))]) C hl dX4_set_60 rfl (by decide) rfl (fun ls hl => ?_)
            refine q_iload_n C hl dX4_set_61 rfl 0 rfl ?_
            refine q_iload_n C hl dX4_set_62 rfl 3 rfl ?_
            refine q_icmp_ne (tgt := 69) C dX4_set_63 (by decide) ⟨by omega, by omega⟩ ⟨by omega, by omega⟩ (fun c16 => ?_) (fun c16 => ?_)
            · have c16 := c16
              refine q_aload_n C hl dX4_set_69 rfl 1 rfl ?_
              refine q_runv C w fr_all (q_V (As := []) (rest := []) C w fr_all fX4_know gX4_set_X4_know rfl ⟨Nat.le_of_ble_eq_true rfl, Nat.le_of_ble_eq_true rfl⟩ (kX4_know l D cI cC cS h ad σ α ς β τ q  (by omega) _) (q0 := 0) rfl rfl rfl rfl hl (Nat.le_of_ble_eq_true rfl) dX4_set_70 ⟨Nat.le_refl 0, Nat.le_refl 0⟩) (fun H locs w => ?_)
              refine q_aload_n C hl dX4_set_73 rfl 1 rfl ?_
              refine q_getM C w.1 (fun w h => List.mem_cons_of_mem _ (List.mem_append_right _ h)) 0 (by decide) (List.mem_of_getElem? (i := 1) rfl) rfl dX4_set_74 ?_
              refine q_bipush C dX4_set_77 (by decide) ?_
              refine q_iload_n C hl dX4_set_79 rfl 2 rfl ?_
              refine q_iadd C dX4_set_80 ?_
              refine q_iload_n C hl dX4_set_81 rfl 3 rfl ?_
              refine q_Mst C w ⟨by omega, by omega⟩ dX4_set_82 (fun H locs w => ?_)
              refine q_iload_n C hl dX4_set_83 rfl 0 rfl ?_
              exact q_iret C w dX4_set_84 (by unfold setu slo shi; (repeat' split) <;> omega) (by have hu : setu σ wh v = σ (10 + wh) := (by unfold setu slo shi; (repeat' split) <;> omega); unfold setv; rw [hu, if_pos (by omega), if_pos (by omega), if_pos (by omega), if_pos (by omega)])
            · have c16 := c16
              refine q_bipush C dX4_set_66 (by decide) ?_
              exact q_iret C w dX4_set_68 (by unfold setu slo shi; (repeat' split) <;> omega) (by have hu : setu σ wh v = -5 := (by unfold setu slo shi; (repeat' split) <;> omega); unfold setv; rw [hu, if_neg (by omega), if_neg (by omega), if_neg (by omega), if_neg (by omega)])
          · have c15 := c15
            refine q_bipush C dX4_set_48 (by decide) ?_
            exact q_iret C w dX4_set_50 (by unfold setu slo shi; (repeat' split) <;> omega) (by have hu : setu σ wh v = -2 := (by unfold setu slo shi; (repeat' split) <;> omega); unfold setv; rw [hu, if_neg (by omega), if_neg (by omega), if_neg (by omega), if_neg (by omega)])
      · have c11 := c11
        refine q_bipush C dX4_set_26 (by decide) ?_
        refine q_goto (tgt := 42) C dX4_set_28 (by decide) ?_
        refine q_runi C w fr_nil (q_S (As := [.int (jj v), .int (jj 1), .int (jj 50)]) (rest := []) C w fr_nil fX4_in gX4_set_X4_in ⟨Nat.le_of_ble_eq_true rfl, Nat.le_of_ble_eq_true rfl⟩ (kX4_in l D cI cC cS v 1 50 ⟨by omega, by omega⟩ ⟨by omega, by omega⟩ ⟨by omega, by omega⟩ _) rfl rfl hl (Nat.le_of_ble_eq_true rfl) dX4_set_42 ⟨Nat.le_refl 0, Nat.le_refl 0⟩) (fun H locs w => ?_)
        refine q_ifz_ne (tgt := 51) C dX4_set_45 (by decide) (fun c17 => ?_) (fun c17 => ?_)
        · have c17 := c17
          have hst := stg_b (σ := σ) b10 bv bf (x := wh) (by omega) (by omega)
          refine q_aload_n C hl dX4_set_51 rfl 0 rfl ?_
          refine q_getM C w.1 (fun w h => List.mem_cons_of_mem _ (List.mem_append_right _ h)) 0 (by decide) (List.mem_of_getElem? (i := 1) rfl) rfl dX4_set_52 ?_
          refine q_bipush C dX4_set_55 (by decide) ?_
          refine q_iload_n C hl dX4_set_57 rfl 1 rfl ?_
          refine q_iadd C dX4_set_58 ?_
          refine q_Mld C w.1 ⟨by omega, by omega⟩ dX4_set_59 ?_
          refine q_istore_n (lv' := [(3, .int (jj (σ (10 + wh)))), (0, .ref h), (1, .int (jj wh)), (2, .int (jj v))]) C hl dX4_set_60 rfl (by decide) rfl (fun ls hl => ?_)
          refine q_iload_n C hl dX4_set_61 rfl 0 rfl ?_
          refine q_iload_n C hl dX4_set_62 rfl 3 rfl ?_
          refine q_icmp_ne (tgt := 69) C dX4_set_63 (by decide) ⟨by omega, by omega⟩ ⟨by omega, by omega⟩ (fun c18 => ?_) (fun c18 => ?_)
          · have c18 := c18
            refine q_aload_n C hl dX4_set_69 rfl 1 rfl ?_
            refine q_runv C w fr_all (q_V (As := []) (rest := []) C w fr_all fX4_know gX4_set_X4_know rfl ⟨Nat.le_of_ble_eq_true rfl, Nat.le_of_ble_eq_true rfl⟩ (kX4_know l D cI cC cS h ad σ α ς β τ q  (by omega) _) (q0 := 0) rfl rfl rfl rfl hl (Nat.le_of_ble_eq_true rfl) dX4_set_70 ⟨Nat.le_refl 0, Nat.le_refl 0⟩) (fun H locs w => ?_)
            refine q_aload_n C hl dX4_set_73 rfl 1 rfl ?_
            refine q_getM C w.1 (fun w h => List.mem_cons_of_mem _ (List.mem_append_right _ h)) 0 (by decide) (List.mem_of_getElem? (i := 1) rfl) rfl dX4_set_74 ?_
            refine q_bipush C dX4_set_77 (by decide) ?_
            refine q_iload_n C hl dX4_set_79 rfl 2 rfl ?_
            refine q_iadd C dX4_set_80 ?_
            refine q_iload_n C hl dX4_set_81 rfl 3 rfl ?_
            refine q_Mst C w ⟨by omega, by omega⟩ dX4_set_82 (fun H locs w => ?_)
            refine q_iload_n C hl dX4_set_83 rfl 0 rfl ?_
            exact q_iret C w dX4_set_84 (by unfold setu slo shi; (repeat' split) <;> omega) (by have hu : setu σ wh v = σ (10 + wh) := (by unfold setu slo shi; (repeat' split) <;> omega); unfold setv; rw [hu, if_pos (by omega), if_pos (by omega), if_pos (by omega), if_pos (by omega)])
          · have c18 := c18
            refine q_bipush C dX4_set_66 (by decide) ?_
            exact q_iret C w dX4_set_68 (by unfold setu slo shi; (repeat' split) <;> omega) (by have hu : setu σ wh v = -5 := (by unfold setu slo shi; (repeat' split) <;> omega); unfold setv; rw [hu, if_neg (by omega), if_neg (by omega), if_neg (by omega), if_neg (by omega)])
        · have c17 := c17
          refine q_bipush C dX4_set_48 (by decide) ?_
          exact q_iret C w dX4_set_50 (by unfold setu slo shi; (repeat' split) <;> omega) (by have hu : setu σ wh v = -2 := (by unfold setu slo shi; (repeat' split) <;> omega); unfold setv; rw [hu, if_neg (by omega), if_neg (by omega), if_neg (by omega), if_neg (by omega)])
  · have c1 := c1
    refine q_iconst C dX4_set_9 ?_
    exact q_iret C w dX4_set_10 (by unfold setu; rw [if_neg (by omega)]) (by have hu : setu σ wh v = -1 := (by unfold setu; rw [if_neg (by omega)]); unfold setv; rw [hu, if_neg (by omega), if_neg (by omega), if_neg (by omega), if_neg (by omega)])
