def rX3_perform : Room := { frames := 7, cells := 0, slots := 0, locals := 170 }
theorem fX3_perform : Fc yX3_perform wsX3_perform rX3_perform cX3_perform 4 (some .int) 0 := ⟨⟨_, rfl⟩, rfl, rfl, by decide +kernel, by decide +kernel, by decide +kernel⟩
set_option maxHeartbeats 4000000 in
set_option maxRecDepth 10000 in
theorem kX3_perform (l : Launch) (D : va_G) (cI cC cS : ClassId) (h hn : Nat) (adn : Nat → Nat) (hsn : Nat) (ads : Nat → Nat) (hh har hw : Nat) (adw : Nat → Nat) (σ ς : Int → Int) (hs : Nat → Nat) (ha : Nat → Nat → Nat) (η : Nat → Int → Int) (dp : Int) (τ kd am sd q u : Int → Int) (le : Int)  (e1 : q 1 = le) (bY : Iv σ) (bdp : 0 ≤ dp ∧ dp ≤ 4) (ble : 0 ≤ le ∧ le ≤ 60) (bt : ∀ x : Int, 0 ≤ x → x < le → 0 ≤ τ x ∧ τ x ≤ 65535) : Ki l yX3_perform wsX3_perform rX3_perform D (tz cI cC cS) [.ref h] (uW cI cC cS h hn adn hsn ads hh har hw adw σ ς hs ha η dp τ kd am sd q u) (paU τ σ le) (uW cI cC cS h hn adn hsn ads hh har hw adw (paV τ σ le) ς (if pdone τ σ le then rcH ((fin τ le).2 + 1) dp hs else hs) (if pdone τ σ le then rcH ((fin τ le).2 + 1) dp ha else ha) (if pdone τ σ le then rcH ((fin τ le).2 + 1) dp (upN η dp.toNat σ) else if wok τ le then upN η dp.toNat σ else η) (if pdone τ σ le then rcP ((fin τ le).2 + 1) dp else dp) τ (pkd τ le ltr kd (mm τ le)) (pkd τ le tnu am (mm τ le)) (pkd τ le tsi sd (mm τ le)) (up (up q 6 (flt τ le)) 5 (mm τ le)) (if pstop τ σ le then up (up u 5 (ar τ σ le).2.1) 6 (ar τ σ le).2.2 else u)) := by
  have hfl := flt_b (τ := τ) ble
  refine q_entry (cc := cX3_perform) (nL := 4) (ret := (some .int)) (by decide) ⟨_, rfl⟩ (Nat.le_of_ble_eq_true rfl) ?_
  intro A pr en s m args below meth c C hin w ls hl
  have w := w
  have hl : lv_has ls 4 [(0, .ref h)] := hl
  refine q_aload_n C hl dX3_perform_0 rfl 0 rfl ?_
  refine q_getU C w.1 (fun w h => List.mem_cons_of_mem _ (List.mem_append_left _ (List.mem_append_left _ (List.mem_append_left _ (List.mem_append_right _ h))))) 3 (by decide) (List.mem_of_getElem? (i := 1) rfl) rfl dX3_perform_1 ?_
  by_cases c1 : wok τ le
  · have c1 := c1
    refine q_runi C w fu_t (q_V (As := []) (rest := []) C w fu_t fX2_read gX3_perform_X2_read rfl ⟨Nat.le_of_ble_eq_true rfl, Nat.le_of_ble_eq_true rfl⟩ (kX2_read_ok l D cI cC cS hw adw τ kd am sd q le e1 (by omega) bt (by assumption) _) (q0 := 0) rfl rfl rfl rfl hl (Nat.le_of_ble_eq_true rfl) dX3_perform_4 ⟨Nat.le_refl 0, Nat.le_refl 0⟩) (fun H locs w => ?_)
    have hfb := itp_b τ ble.1 40 (by omega)
    have hfb2 : 0 ≤ (fin τ le).2 ∧ (fin τ le).2 ≤ 40 := ⟨hfb.1, hfb.2.1⟩
    refine q_istore_n (lv' := [(1, .int (jj (-1))), (0, .ref h)]) C hl dX3_perform_7 rfl (by decide) rfl (fun ls hl => ?_)
    refine q_iload_n C hl dX3_perform_8 rfl 0 rfl ?_
    refine q_if_lt (tgt := 17) C dX3_perform_9 (by decide) ⟨by omega, by omega⟩ (fun _ => ?_) (fun z => absurd z (by omega))
    refine q_aload_n C hl dX3_perform_17 rfl 1 rfl ?_
    refine q_getU C w.1 (fun w h => List.mem_cons_of_mem _ (List.mem_append_left _ (List.mem_append_left _ (List.mem_append_left _ (List.mem_append_right _ h))))) 2 (by decide) (List.mem_of_getElem? (i := 2) rfl) rfl dX3_perform_18 ?_
    refine q_aload_n C hl dX3_perform_21 rfl 1 rfl ?_
    refine q_getU C w.1 (fun w h => List.mem_cons_of_mem _ (List.mem_append_left _ (List.mem_append_left _ (List.mem_append_left _ (List.mem_append_right _ h))))) 0 (by decide) (List.mem_of_getElem? (i := 3) rfl) rfl dX3_perform_22 ?_
    refine q_runv C w fu_d (q_V (As := [.ref hn]) (rest := []) C w fu_d fX0_draft gX3_perform_X0_draft rfl ⟨Nat.le_of_ble_eq_true rfl, Nat.le_of_ble_eq_true rfl⟩ (kX0_draft l D cI cC cS hh har hs ha η dp hn adn σ  (by omega) _) (q0 := 0) rfl rfl rfl rfl hl (Nat.le_of_ble_eq_true rfl) dX3_perform_25 ⟨Nat.le_refl 0, Nat.le_refl 0⟩) (fun H locs w => ?_)
    refine q_iconst C dX3_perform_28 ?_
    refine q_istore_n (lv' := [(2, .int (jj 0)), (1, .int (jj (-1))), (0, .ref h)]) C hl dX3_perform_29 rfl (by decide) rfl (fun ls hl => ?_)
    have loop30 : ∀ (n30 : Nat) (i : Int) (st : Int → Int), (0 ≤ i) → (i ≤ (fin τ le).2 + 1) → ((st, i, 0) = ars τ σ le i) → (Iv st) → ((fin τ le).2 + 1 - i).toNat < n30 → ∀ (H : Heap) (locs : List Loc), Wd D A s (uW cI cC cS h hn adn hsn ads hh har hw adw st ς hs ha (upN η dp.toNat σ) dp τ (pkd τ le ltr kd ((fin τ le).2 + 1)) (pkd τ le tnu am ((fin τ le).2 + 1)) (pkd τ le tsi sd ((fin τ le).2 + 1)) (up (up q 6 (ten τ le (fin τ le).1)) 5 ((fin τ le).2 + 1)) u) H locs → ∀ ls : Array Slot, lv_has ls 4 [(0, .ref h), (1, .int (jj (-1))), (2, .int (jj i))] → W pr l en rX3_perform s m args below meth c H locs 0 0 (MQ below (Qi D (tz cI cC cS) (paU τ σ le) (uW cI cC cS h hn adn hsn ads hh har hw adw (paV τ σ le) ς (if pdone τ σ le then rcH ((fin τ le).2 + 1) dp hs else hs) (if pdone τ σ le then rcH ((fin τ le).2 + 1) dp ha else ha) (if pdone τ σ le then rcH ((fin τ le).2 + 1) dp (upN η dp.toNat σ) else if wok τ le then upN η dp.toNat σ else η) (if pdone τ σ le then rcP ((fin τ le).2 + 1) dp else dp) τ (pkd τ le ltr kd (mm τ le)) (pkd τ le tnu am (mm τ le)) (pkd τ le tsi sd (mm τ le)) (up (up q 6 (flt τ le)) 5 (mm τ le)) (if pstop τ σ le then up (up u 5 (ar τ σ le).2.1) 6 (ar τ σ le).2.2 else u)) A) args s 0 0 A) (F0 m 30 ls []) := by
      intro n30
      induction n30 with
      | zero => intro i st hi0 hi1 hst hI hm; exact absurd hm (Nat.not_lt_zero _)
      | succ n30 ih30 =>
        intro i st hi0 hi1 hst hI hm30 H locs w ls hl
        refine q_iload_n C hl dX3_perform_30 rfl 2 rfl ?_
        refine q_aload_n C hl dX3_perform_31 rfl 0 rfl ?_
        refine q_getU C w.1 (fun w h => List.mem_cons_of_mem _ (List.mem_append_left _ (List.mem_append_left _ (List.mem_append_left _ (List.mem_append_right _ h))))) 3 (by decide) (List.mem_of_getElem? (i := 1) rfl) rfl dX3_perform_32 ?_
        refine q_getT (v := .int (jj ((fin τ le).2 + 1))) C (vU_t w.1) (fun w h => List.mem_cons_of_mem _ (List.mem_append_left _ (List.mem_append_left _ (List.mem_append_right _ h)))) 5 (by decide) (List.mem_of_getElem? (i := 4) rfl) rfl dX3_perform_35 ?_
        refine q_icmp_ge (tgt := 113) C dX3_perform_38 (by decide) ⟨by omega, by omega⟩ ⟨by omega, by omega⟩ (fun c3 => ?_) (fun c3 => ?_)
        · have c3 := c3
          refine q_aload_n C hl dX3_perform_113 rfl 0 rfl ?_
          refine q_aload_n C hl dX3_perform_114 rfl 0 rfl ?_
          refine q_getU C w.1 (fun w h => List.mem_cons_of_mem _ (List.mem_append_left _ (List.mem_append_left _ (List.mem_append_left _ (List.mem_append_right _ h))))) 3 (by decide) (List.mem_of_getElem? (i := 1) rfl) rfl dX3_perform_115 ?_
          refine q_getT (v := .int (jj ((fin τ le).2 + 1))) C (vU_t w.1) (fun w h => List.mem_cons_of_mem _ (List.mem_append_left _ (List.mem_append_left _ (List.mem_append_right _ h)))) 5 (by decide) (List.mem_of_getElem? (i := 4) rfl) rfl dX3_perform_118 ?_
          refine q_runi C w fr_all (q_V (As := [.int (jj ((fin τ le).2 + 1))]) (rest := []) C w fr_all fX3_recorded gX3_perform_X3_recorded rfl ⟨Nat.le_of_ble_eq_true rfl, Nat.le_of_ble_eq_true rfl⟩ (kX3_recorded l D cI cC cS h hn adn hsn ads hh har hw adw st ς hs ha (upN η dp.toNat σ) dp τ (pkd τ le ltr kd ((fin τ le).2 + 1)) (pkd τ le tnu am ((fin τ le).2 + 1)) (pkd τ le tsi sd ((fin τ le).2 + 1)) (up (up q 6 (ten τ le (fin τ le).1)) 5 ((fin τ le).2 + 1)) u ((fin τ le).2 + 1) ⟨by omega, by omega⟩ (by omega) _) (q0 := 0) rfl rfl rfl rfl hl (Nat.le_of_ble_eq_true rfl) dX3_perform_121 ⟨Nat.le_refl 0, Nat.le_refl 0⟩) (fun H locs w => ?_)
          exact q_iret C w dX3_perform_124 (by have hw : wok τ le := (by assumption); have hm : mm τ le = (fin τ le).2 + 1 := if_pos hw.1; have hf : flt τ le = ten τ le (fin τ le).1 := if_pos hw.1; have ha_ := ar_end hst (by omega); have hx := pdone_iff (σ := σ) hw (by rw [ha_]); unfold paU; rw [if_pos hw, if_neg hx.1.2]) (by have hw : wok τ le := (by assumption); have hm : mm τ le = (fin τ le).2 + 1 := if_pos hw.1; have hf : flt τ le = ten τ le (fin τ le).1 := if_pos hw.1; have ha_ := ar_end hst (by omega); have hx := pdone_iff (σ := σ) hw (by rw [ha_]); unfold paV; simp only [if_pos hx.1, if_neg hx.2, hm, hf]; rw [ha_])
        · have c3 := c3
          have htk := itp_tok ble (show wok τ le by assumption) hi0 (by omega)
          have hib := itp_b τ ble.1 i hi0
          have hlb := ltr_b (le := le) (P := (itp τ le i).1) (by omega) bt
          have hu := hpU_b hI (tok_ex htk.2.1)
          refine q_aload_n C hl dX3_perform_41 rfl 0 rfl ?_
          refine q_aload_n C hl dX3_perform_42 rfl 0 rfl ?_
          refine q_getU C w.1 (fun w h => List.mem_cons_of_mem _ (List.mem_append_left _ (List.mem_append_left _ (List.mem_append_left _ (List.mem_append_right _ h))))) 3 (by decide) (List.mem_of_getElem? (i := 1) rfl) rfl dX3_perform_43 ?_
          refine q_getT C (vU_t w.1) (fun w h => List.mem_cons_of_mem _ (List.mem_append_left _ (List.mem_append_left _ (List.mem_append_right _ h)))) 2 (by decide) (List.mem_of_getElem? (i := 5) rfl) rfl dX3_perform_46 ?_
          refine q_iload_n C hl dX3_perform_49 rfl 2 rfl ?_
          refine q_cald (n := 30) (f := pkd τ le ltr kd ((fin τ le).2 + 1)) C (vU_t w.1) 2 1 rfl rfl ⟨by omega, by omega, by omega⟩ dX3_perform_50 ?_
          refine q_aload_n C hl dX3_perform_51 rfl 0 rfl ?_
          refine q_getU C w.1 (fun w h => List.mem_cons_of_mem _ (List.mem_append_left _ (List.mem_append_left _ (List.mem_append_left _ (List.mem_append_right _ h))))) 3 (by decide) (List.mem_of_getElem? (i := 1) rfl) rfl dX3_perform_52 ?_
          refine q_getT C (vU_t w.1) (fun w h => List.mem_cons_of_mem _ (List.mem_append_left _ (List.mem_append_left _ (List.mem_append_right _ h)))) 3 (by decide) (List.mem_of_getElem? (i := 6) rfl) rfl dX3_perform_55 ?_
          refine q_iload_n C hl dX3_perform_58 rfl 2 rfl ?_
          refine q_iald (n := 30) (f := pkd τ le tnu am ((fin τ le).2 + 1)) C (vU_t w.1) 3 0 rfl rfl ⟨by omega, by omega, by omega⟩ dX3_perform_59 ?_
          refine q_aload_n C hl dX3_perform_60 rfl 0 rfl ?_
          refine q_getU C w.1 (fun w h => List.mem_cons_of_mem _ (List.mem_append_left _ (List.mem_append_left _ (List.mem_append_left _ (List.mem_append_right _ h))))) 3 (by decide) (List.mem_of_getElem? (i := 1) rfl) rfl dX3_perform_61 ?_
          refine q_getT C (vU_t w.1) (fun w h => List.mem_cons_of_mem _ (List.mem_append_left _ (List.mem_append_left _ (List.mem_append_right _ h)))) 4 (by decide) (List.mem_of_getElem? (i := 7) rfl) rfl dX3_perform_64 ?_
          refine q_iload_n C hl dX3_perform_67 rfl 2 rfl ?_
          refine q_iald (n := 30) (f := pkd τ le tsi sd ((fin τ le).2 + 1)) C (vU_t w.1) 4 0 rfl rfl ⟨by omega, by omega, by omega⟩ dX3_perform_68 ?_
          rw [pkd_at (τ := τ) (le := le) (n := (fin τ le).2 + 1) (k := i) ltr kd (by omega) (by omega), pkd_at (τ := τ) (le := le) (n := (fin τ le).2 + 1) (k := i) tnu am (by omega) (by omega), pkd_at (τ := τ) (le := le) (n := (fin τ le).2 + 1) (k := i) tsi sd (by omega) (by omega)]
          refine q_runi C w fr_all (q_V (As := [.int (jj (ltr τ le (itp τ le i).1)), .int (jj (tnu τ le (itp τ le i).1)), .int (jj (tsi τ le (itp τ le i).1))]) (rest := []) C w fr_all fX3_happen gX3_perform_X3_happen rfl ⟨Nat.le_of_ble_eq_true rfl, Nat.le_of_ble_eq_true rfl⟩ (kX3_happen l D cI cC cS h hn adn hsn ads hh har hw adw st ς hs ha (upN η dp.toNat σ) dp τ (pkd τ le ltr kd ((fin τ le).2 + 1)) (pkd τ le tnu am ((fin τ le).2 + 1)) (pkd τ le tsi sd ((fin τ le).2 + 1)) (up (up q 6 (ten τ le (fin τ le).1)) 5 ((fin τ le).2 + 1)) u (ltr τ le (itp τ le i).1) (tnu τ le (itp τ le i).1) (tsi τ le (itp τ le i).1) hI (by omega) (tok_ex htk.2.1) _) (q0 := 0) rfl rfl rfl rfl hl (Nat.le_of_ble_eq_true rfl) dX3_perform_69 ⟨Nat.le_refl 0, Nat.le_refl 0⟩) (fun H locs w => ?_)
          refine q_istore_n (lv' := [(3, .int (jj (hpU st (ltr τ le (itp τ le i).1) (tnu τ le (itp τ le i).1) (tsi τ le (itp τ le i).1)))), (0, .ref h), (1, .int (jj (-1))), (2, .int (jj i))]) C hl dX3_perform_72 rfl (by decide) rfl (fun ls hl => ?_)
          refine q_iload_n C hl dX3_perform_73 rfl 0 rfl ?_
          refine q_runi C w fr_nil (q_S (As := [.int (jj (hpU st (ltr τ le (itp τ le i).1) (tnu τ le (itp τ le i).1) (tsi τ le (itp τ le i).1)))]) (rest := []) C w fr_nil fX3_isStop gX3_perform_X3_isStop ⟨Nat.le_of_ble_eq_true rfl, Nat.le_of_ble_eq_true rfl⟩ (kX3_isStop l D cI cC cS (hpU st (ltr τ le (itp τ le i).1) (tnu τ le (itp τ le i).1) (tsi τ le (itp τ le i).1)) (by omega) _) rfl rfl hl (Nat.le_of_ble_eq_true rfl) dX3_perform_74 ⟨Nat.le_refl 0, Nat.le_refl 0⟩) (fun H locs w => ?_)
          refine q_ifz_eq (tgt := 107) C dX3_perform_77 (by decide) (fun c4 => ?_) (fun c4 => ?_)
          · have c4 := c4
            refine q_iinc (lv' := [(2, .int (jj (i + 1))), (3, .int (jj (hpU st (ltr τ le (itp τ le i).1) (tnu τ le (itp τ le i).1) (tsi τ le (itp τ le i).1)))), (0, .ref h), (1, .int (jj (-1)))]) C hl dX3_perform_107 3 rfl (by decide) rfl (fun ls hl => ?_)
            refine q_goto (tgt := 30) C dX3_perform_110 (by decide) ?_
            exact ih30 (i + 1) (hpV st (ltr τ le (itp τ le i).1) (tnu τ le (itp τ le i).1) (tsi τ le (itp τ le i).1)) (by omega) (by omega) (ars_go hi0 hst (show ¬ stA (hpU st (ltr τ le (itp τ le i).1) (tnu τ le (itp τ le i).1) (tsi τ le (itp τ le i).1)) by assumption)) (hpV_I hI _ _ _) (by omega) _ _ w ls (lv_sub hl [2, 3, 0] rfl)
          · have c4 := c4
            refine q_aload_n C hl dX3_perform_80 rfl 1 rfl ?_
            refine q_getU C w.1 (fun w h => List.mem_cons_of_mem _ (List.mem_append_left _ (List.mem_append_left _ (List.mem_append_left _ (List.mem_append_right _ h))))) 0 (by decide) (List.mem_of_getElem? (i := 3) rfl) rfl dX3_perform_81 ?_
            refine q_aload_n C hl dX3_perform_84 rfl 1 rfl ?_
            refine q_getU C w.1 (fun w h => List.mem_cons_of_mem _ (List.mem_append_left _ (List.mem_append_left _ (List.mem_append_left _ (List.mem_append_right _ h))))) 2 (by decide) (List.mem_of_getElem? (i := 2) rfl) rfl dX3_perform_85 ?_
            refine q_runr C w fu_h (q_V (As := []) (rest := [.ref hn]) C w fu_h fX0_drafted gX3_perform_X0_drafted rfl ⟨Nat.le_of_ble_eq_true rfl, Nat.le_of_ble_eq_true rfl⟩ (kX0_drafted l D cI cC cS hh har hs ha (upN η dp.toNat σ) dp  (by omega) _) (q0 := 0) rfl rfl rfl rfl hl (Nat.le_of_ble_eq_true rfl) dX3_perform_88 ⟨Nat.le_refl 0, Nat.le_refl 0⟩) (fun H locs w => ?_)
            refine q_runv C w (fu_u (d := dp.toNat) (by omega)) (q_V (As := [.ref (hs dp.toNat)]) (rest := []) C w (fu_u (d := dp.toNat) (by omega)) fX1_copyFrom gX3_perform_X1_copyFrom rfl ⟨Nat.le_of_ble_eq_true rfl, Nat.le_of_ble_eq_true rfl⟩ (kX1_copyFrom l D cI cC cS hn adn (hpV st (ltr τ le (itp τ le i).1) (tnu τ le (itp τ le i).1) (tsi τ le (itp τ le i).1)) (hs dp.toNat) (ha dp.toNat) ((upN η dp.toNat σ) dp.toNat)   _) (q0 := 0) rfl rfl rfl rfl hl (Nat.le_of_ble_eq_true rfl) dX3_perform_91 ⟨Nat.le_refl 0, Nat.le_refl 0⟩) (fun H locs w => ?_)
            rw [show upN η dp.toNat σ dp.toNat = σ from if_pos rfl] at w
            refine q_aload_n C hl dX3_perform_94 rfl 1 rfl ?_
            refine q_iload_n C hl dX3_perform_95 rfl 3 rfl ?_
            refine q_putU C w (fun w h => List.mem_cons_of_mem _ (List.mem_append_left _ (List.mem_append_left _ (List.mem_append_left _ (List.mem_append_right _ h))))) 5 (by decide) (List.mem_of_getElem? (i := 8) rfl) rfl rfl rfl rfl dX3_perform_96 (fun H locs w => ?_)
            refine q_aload_n C hl dX3_perform_99 rfl 1 rfl ?_
            refine q_iload_n C hl dX3_perform_100 rfl 0 rfl ?_
            refine q_putU C w (fun w h => List.mem_cons_of_mem _ (List.mem_append_left _ (List.mem_append_left _ (List.mem_append_left _ (List.mem_append_right _ h))))) 6 (by decide) (List.mem_of_getElem? (i := 9) rfl) rfl rfl rfl rfl dX3_perform_101 (fun H locs w => ?_)
            refine q_bipush C dX3_perform_104 (by decide) ?_
            exact q_iret C w dX3_perform_106 (by have hw : wok τ le := (by assumption); have hm : mm τ le = (fin τ le).2 + 1 := if_pos hw.1; have hf : flt τ le = ten τ le (fin τ le).1 := if_pos hw.1; have hsp : stA (aU τ st le (itp τ le i).1) := (show stA (hpU st (ltr τ le (itp τ le i).1) (tnu τ le (itp τ le i).1) (tsi τ le (itp τ le i).1)) by assumption); have ha_ := ar_stop hi0 (by omega) hst hsp; have hps : pstop τ σ le := ⟨hw, (by rw [ha_]; show aU τ st le (itp τ le i).1 < 0; omega)⟩; have hnd : ¬ pdone τ σ le := (fun z => z.2 hps.2); unfold paU; rw [if_pos hw, if_pos hps.2]) (by have hw : wok τ le := (by assumption); have hm : mm τ le = (fin τ le).2 + 1 := if_pos hw.1; have hf : flt τ le = ten τ le (fin τ le).1 := if_pos hw.1; have hsp : stA (aU τ st le (itp τ le i).1) := (show stA (hpU st (ltr τ le (itp τ le i).1) (tnu τ le (itp τ le i).1) (tsi τ le (itp τ le i).1)) by assumption); have ha_ := ar_stop hi0 (by omega) hst hsp; have hps : pstop τ σ le := ⟨hw, (by rw [ha_]; show aU τ st le (itp τ le i).1 < 0; omega)⟩; have hnd : ¬ pdone τ σ le := (fun z => z.2 hps.2); unfold paV; simp only [if_neg hnd, if_pos hps, if_pos hw, hm, hf]; rw [ha_]; rfl)
    exact loop30 _ 0 σ (by omega) (by omega) rfl bY (Nat.lt_succ_self _) _ _ w ls (lv_sub hl [2, 1, 0] rfl)
  · have c1 := c1
    refine q_runi C w fu_t (q_V (As := []) (rest := []) C w fu_t fX2_read gX3_perform_X2_read rfl ⟨Nat.le_of_ble_eq_true rfl, Nat.le_of_ble_eq_true rfl⟩ (kX2_read_bad l D cI cC cS hw adw τ kd am sd q le e1 (by omega) bt (by assumption) _) (q0 := 0) rfl rfl rfl rfl hl (Nat.le_of_ble_eq_true rfl) dX3_perform_4 ⟨Nat.le_refl 0, Nat.le_refl 0⟩) (fun H locs w => ?_)
    refine q_istore_n (lv' := [(1, .int (jj (flt τ le))), (0, .ref h)]) C hl dX3_perform_7 rfl (by decide) rfl (fun ls hl => ?_)
    refine q_iload_n C hl dX3_perform_8 rfl 0 rfl ?_
    refine q_if_lt (tgt := 17) C dX3_perform_9 (by decide) ⟨by omega, by omega⟩ (fun c5 => ?_) (fun c5 => ?_)
    · exact absurd c5 (by omega)
    · have c5 := c5
      refine q_bipush C dX3_perform_12 (by decide) ?_
      refine q_iload_n C hl dX3_perform_14 rfl 0 rfl ?_
      refine q_isub C dX3_perform_15 ?_
      exact q_iret C w dX3_perform_16 (by unfold paU; rw [if_neg (by assumption)]) (by have hw : ¬ wok τ le := (by assumption); have h1 : ¬ pdone τ σ le := (fun z => hw z.1); have h2 : ¬ pstop τ σ le := (fun z => hw z.1); unfold paV; simp only [if_neg h1, if_neg h2, if_neg hw]; rfl)
