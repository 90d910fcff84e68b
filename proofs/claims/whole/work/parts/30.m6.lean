def rX4_isNext : Room := { frames := 1, cells := 0, slots := 0, locals := 22 }
theorem fX4_isNext : Fc yX4_isNext wsX4_isNext rX4_isNext cX4_isNext 3 (some .boolean) 2 := ⟨⟨_, rfl⟩, rfl, rfl, by decide +kernel, by decide +kernel, by decide +kernel⟩
set_option maxHeartbeats 4000000 in
set_option maxRecDepth 10000 in
theorem kX4_isNext (l : Launch) (D : va_G) (cI cC cS : ClassId) (h : Nat) (ad : Nat → Nat) (σ α ς β τ q : Int → Int) (P le wr : Int) (lo hi : Int) (e10 : q 10 = P) (e7 : q 7 = le) (e11 : q 11 = wr) (bpP : 0 ≤ P ∧ P ≤ 100) (ble : 0 ≤ le ∧ le ≤ 60) (bt : ∀ x : Int, 0 ≤ x → x < le → 0 ≤ τ x ∧ τ x ≤ 65535) (bwr : wr = 0 ∨ wr = 1) (blo : 0 ≤ lo ∧ lo ≤ 65535 ∧ 0 ≤ hi ∧ hi ≤ 65535) : Ki l yX4_isNext wsX4_isNext rX4_isNext D (tz cI cC cS) [.ref h, .int (jj lo), .int (jj hi)] (mW cI h ad σ α ς β τ q) (bI (wr = 0 ∧ P < le ∧ lo ≤ τ P ∧ τ P ≤ hi)) (mW cI h ad σ α ς β τ q) := by
  refine q_entry (cc := cX4_isNext) (nL := 3) (ret := (some .boolean)) (by decide) ⟨_, rfl⟩ (Nat.le_of_ble_eq_true rfl) ?_
  intro A pr en s m args below meth c C hin w ls hl
  have w := w
  have hl : lv_has ls 3 [(0, .ref h), (1, .int (jj lo)), (2, .int (jj hi))] := hl
  refine q_aload_n C hl dX4_isNext_0 rfl 0 rfl ?_
  refine q_getM (v := .int (jj wr)) C w.1 (fun w h => List.mem_cons_of_mem _ (List.mem_append_right _ h)) 11 (by decide) (List.mem_of_getElem? (i := 1) rfl) (gt_v rfl e11) dX4_isNext_1 ?_
  refine q_if_ne (tgt := 39) C dX4_isNext_4 (by decide) ⟨by omega, by omega⟩ (fun c1 => ?_) (fun c1 => ?_)
  · have c1 := c1
    refine q_iconst C dX4_isNext_39 ?_
    exact q_zret C w dX4_isNext_40 (by first | exact (bI_t (by omega)).symm | exact (bI_f (by omega)).symm) rfl
  · have c1 := c1
    refine q_aload_n C hl dX4_isNext_7 rfl 0 rfl ?_
    refine q_getM (v := .int (jj P)) C w.1 (fun w h => List.mem_cons_of_mem _ (List.mem_append_right _ h)) 10 (by decide) (List.mem_of_getElem? (i := 2) rfl) (gt_v rfl e10) dX4_isNext_8 ?_
    refine q_aload_n C hl dX4_isNext_11 rfl 0 rfl ?_
    refine q_getM (v := .int (jj le)) C w.1 (fun w h => List.mem_cons_of_mem _ (List.mem_append_right _ h)) 7 (by decide) (List.mem_of_getElem? (i := 3) rfl) (gt_v rfl e7) dX4_isNext_12 ?_
    refine q_icmp_ge (tgt := 39) C dX4_isNext_15 (by decide) ⟨by omega, by omega⟩ ⟨by omega, by omega⟩ (fun c2 => ?_) (fun c2 => ?_)
    · have c2 := c2
      refine q_iconst C dX4_isNext_39 ?_
      exact q_zret C w dX4_isNext_40 (by first | exact (bI_t (by omega)).symm | exact (bI_f (by omega)).symm) rfl
    · have c2 := c2
      have ht := bt P (by omega) (by omega)
      refine q_aload_n C hl dX4_isNext_18 rfl 0 rfl ?_
      refine q_getM C w.1 (fun w h => List.mem_cons_of_mem _ (List.mem_append_right _ h)) 6 (by decide) (List.mem_of_getElem? (i := 4) rfl) rfl dX4_isNext_19 ?_
      refine q_aload_n C hl dX4_isNext_22 rfl 0 rfl ?_
      refine q_getM (v := .int (jj P)) C w.1 (fun w h => List.mem_cons_of_mem _ (List.mem_append_right _ h)) 10 (by decide) (List.mem_of_getElem? (i := 2) rfl) (gt_v rfl e10) dX4_isNext_23 ?_
      refine q_iald (n := 60) (f := τ) C w.1 5 0 rfl rfl ⟨by omega, by omega, by omega⟩ dX4_isNext_26 ?_
      refine q_iload_n C hl dX4_isNext_27 rfl 1 rfl ?_
      refine q_iload_n C hl dX4_isNext_28 rfl 2 rfl ?_
      refine q_runi C w fr_nil (q_S (As := [.int (jj (τ P)), .int (jj lo), .int (jj hi)]) (rest := []) C w fr_nil fX4_in gX4_isNext_X4_in ⟨Nat.le_of_ble_eq_true rfl, Nat.le_of_ble_eq_true rfl⟩ (kX4_in l D cI cC cS (τ P) lo hi ⟨by omega, by omega⟩ ⟨by omega, by omega⟩ ⟨by omega, by omega⟩ _) rfl rfl hl (Nat.le_of_ble_eq_true rfl) dX4_isNext_29 ⟨Nat.le_refl 0, Nat.le_refl 0⟩) (fun H locs w => ?_)
      refine q_ifz_eq (tgt := 39) C dX4_isNext_32 (by decide) (fun c3 => ?_) (fun c3 => ?_)
      · have c3 := c3
        refine q_iconst C dX4_isNext_39 ?_
        exact q_zret C w dX4_isNext_40 (by first | exact (bI_t (by omega)).symm | exact (bI_f (by omega)).symm) rfl
      · have c3 := c3
        refine q_iconst C dX4_isNext_35 ?_
        refine q_goto (tgt := 40) C dX4_isNext_36 (by decide) ?_
        exact q_zret C w dX4_isNext_40 (by first | exact (bI_t (by omega)).symm | exact (bI_f (by omega)).symm) rfl

def rX4_takes : Room := { frames := 1, cells := 0, slots := 0, locals := 22 }
theorem fX4_takes : Fc yX4_takes wsX4_takes rX4_takes cX4_takes 4 (some .int) 2 := ⟨⟨_, rfl⟩, rfl, rfl, by decide +kernel, by decide +kernel, by decide +kernel⟩
set_option maxHeartbeats 4000000 in
set_option maxRecDepth 10000 in
theorem kX4_takes_ok (l : Launch) (D : va_G) (cI cC cS : ClassId) (h : Nat) (ad : Nat → Nat) (σ α ς β τ q : Int → Int) (P le : Int) (lo hi : Int) (e10 : q 10 = P) (e7 : q 7 = le) (e11 : q 11 = 0) (bpP : 0 ≤ P ∧ P ≤ 100) (ble : 0 ≤ le ∧ le ≤ 60) (bt : ∀ x : Int, 0 ≤ x → x < le → 0 ≤ τ x ∧ τ x ≤ 65535) (hc : lo ≤ ltr τ le P ∧ ltr τ le P ≤ hi) (blo : 1 ≤ lo ∧ lo ≤ 65535 ∧ 0 ≤ hi ∧ hi ≤ 65535) : Ki l yX4_takes wsX4_takes rX4_takes D (tz cI cC cS) [.ref h, .int (jj lo), .int (jj hi)] (mW cI h ad σ α ς β τ q) (ltr τ le P - lo) (mW cI h ad σ α ς β τ (up (up q 11 0) 10 (P + 1))) := by
  refine q_entry (cc := cX4_takes) (nL := 4) (ret := (some .int)) (by decide) ⟨_, rfl⟩ (Nat.le_of_ble_eq_true rfl) ?_
  intro A pr en s m args below meth c C hin w ls hl
  have w := w
  have hl : lv_has ls 4 [(0, .ref h), (1, .int (jj lo)), (2, .int (jj hi))] := hl
  refine q_aload_n C hl dX4_takes_0 rfl 0 rfl ?_
  refine q_getM (v := .int (jj P)) C w.1 (fun w h => List.mem_cons_of_mem _ (List.mem_append_right _ h)) 10 (by decide) (List.mem_of_getElem? (i := 1) rfl) (gt_v rfl e10) dX4_takes_1 ?_
  refine q_aload_n C hl dX4_takes_4 rfl 0 rfl ?_
  refine q_getM (v := .int (jj le)) C w.1 (fun w h => List.mem_cons_of_mem _ (List.mem_append_right _ h)) 7 (by decide) (List.mem_of_getElem? (i := 2) rfl) (gt_v rfl e7) dX4_takes_5 ?_
  refine q_icmp_ge (tgt := 23) C dX4_takes_8 (by decide) ⟨by omega, by omega⟩ ⟨by omega, by omega⟩ (fun c1 => ?_) (fun c1 => ?_)
  · exact absurd (ltr_out (τ := τ) c1) (by omega)
  · have c1 := c1
    have el := ltr_in (τ := τ) (le := le) (P := P) (by omega)
    have ht := bt P (by omega) (by omega)
    refine q_aload_n C hl dX4_takes_11 rfl 0 rfl ?_
    refine q_getM C w.1 (fun w h => List.mem_cons_of_mem _ (List.mem_append_right _ h)) 6 (by decide) (List.mem_of_getElem? (i := 3) rfl) rfl dX4_takes_12 ?_
    refine q_aload_n C hl dX4_takes_15 rfl 0 rfl ?_
    refine q_getM (v := .int (jj P)) C w.1 (fun w h => List.mem_cons_of_mem _ (List.mem_append_right _ h)) 10 (by decide) (List.mem_of_getElem? (i := 1) rfl) (gt_v rfl e10) dX4_takes_16 ?_
    refine q_iald (n := 60) (f := τ) C w.1 5 0 rfl rfl ⟨by omega, by omega, by omega⟩ dX4_takes_19 ?_
    refine q_goto (tgt := 24) C dX4_takes_20 (by decide) ?_
    refine q_istore_n (lv' := [(3, .int (jj (τ P))), (0, .ref h), (1, .int (jj lo)), (2, .int (jj hi))]) C hl dX4_takes_24 rfl (by decide) rfl (fun ls hl => ?_)
    refine q_aload_n C hl dX4_takes_25 rfl 1 rfl ?_
    refine q_aload_n C hl dX4_takes_26 rfl 1 rfl ?_
    refine q_getM (v := .int (jj 0)) C w.1 (fun w h => List.mem_cons_of_mem _ (List.mem_append_right _ h)) 11 (by decide) (List.mem_of_getElem? (i := 4) rfl) (gt_v rfl e11) dX4_takes_27 ?_
    refine q_if_ne (tgt := 42) C dX4_takes_30 (by decide) ⟨by omega, by omega⟩ (fun z => absurd z (by omega)) (fun _ => ?_)
    refine q_iload_n C hl dX4_takes_33 rfl 0 rfl ?_
    refine q_iload_n C hl dX4_takes_34 rfl 2 rfl ?_
    refine q_iload_n C hl dX4_takes_35 rfl 3 rfl ?_
    refine q_runi C w fr_nil (q_S (As := [.int (jj (τ P)), .int (jj lo), .int (jj hi)]) (rest := [.ref h]) C w fr_nil fX4_in gX4_takes_X4_in ⟨Nat.le_of_ble_eq_true rfl, Nat.le_of_ble_eq_true rfl⟩ (kX4_in l D cI cC cS (τ P) lo hi ⟨by omega, by omega⟩ ⟨by omega, by omega⟩ ⟨by omega, by omega⟩ _) rfl rfl hl (Nat.le_of_ble_eq_true rfl) dX4_takes_36 ⟨Nat.le_refl 0, Nat.le_refl 0⟩) (fun H locs w => ?_)
    refine q_ifz_ne (tgt := 46) C dX4_takes_39 (by decide) (fun c3 => ?_) (fun c3 => ?_)
    · have c3 := c3
      refine q_iconst C dX4_takes_46 ?_
      refine q_putM C w (fun w h => List.mem_cons_of_mem _ (List.mem_append_right _ h)) 11 (by decide) (List.mem_of_getElem? (i := 4) rfl) rfl rfl (nar_b (by omega)) rfl dX4_takes_47 (mP11 cI h ad _ _ _ _ _ _ _) (fun H locs w => ?_)
      refine q_aload_n C hl dX4_takes_50 rfl 1 rfl ?_
      refine q_dup C dX4_takes_51 rfl ?_
      refine q_getM (v := .int (jj P)) C w.1 (fun w h => List.mem_cons_of_mem _ (List.mem_append_right _ h)) 10 (by decide) (List.mem_of_getElem? (i := 1) rfl) (gt_v rfl e10) dX4_takes_52 ?_
      refine q_aload_n C hl dX4_takes_55 rfl 1 rfl ?_
      refine q_getM (v := .int (jj 0)) C w.1 (fun w h => List.mem_cons_of_mem _ (List.mem_append_right _ h)) 11 (by decide) (List.mem_of_getElem? (i := 4) rfl) rfl dX4_takes_56 ?_
      refine q_if_eq (tgt := 66) C dX4_takes_59 (by decide) ⟨by omega, by omega⟩ (fun _ => ?_) (fun z => absurd z (by omega))
      refine q_iconst C dX4_takes_66 ?_
      refine q_iadd C dX4_takes_67 ?_
      refine q_putM C w (fun w h => List.mem_cons_of_mem _ (List.mem_append_right _ h)) 10 (by decide) (List.mem_of_getElem? (i := 1) rfl) rfl rfl rfl rfl dX4_takes_68 (mP10 cI h ad _ _ _ _ _ _ _) (fun H locs w => ?_)
      refine q_iload_n C hl dX4_takes_71 rfl 0 rfl ?_
      refine q_iload_n C hl dX4_takes_72 rfl 2 rfl ?_
      refine q_isub C dX4_takes_73 ?_
      exact q_iret C w dX4_takes_74 (by omega) rfl
    · exact absurd c3 (by omega)

set_option maxHeartbeats 4000000 in
set_option maxRecDepth 10000 in
theorem kX4_takes_bad (l : Launch) (D : va_G) (cI cC cS : ClassId) (h : Nat) (ad : Nat → Nat) (σ α ς β τ q : Int → Int) (P le wr : Int) (lo hi : Int) (e10 : q 10 = P) (e7 : q 7 = le) (e11 : q 11 = wr) (bpP : 0 ≤ P ∧ P ≤ 100) (ble : 0 ≤ le ∧ le ≤ 60) (bt : ∀ x : Int, 0 ≤ x → x < le → 0 ≤ τ x ∧ τ x ≤ 65535) (bwr : wr = 0 ∨ wr = 1) (hc : wr = 1 ∨ ¬ (lo ≤ ltr τ le P ∧ ltr τ le P ≤ hi)) (blo : 0 ≤ lo ∧ lo ≤ 65535 ∧ 0 ≤ hi ∧ hi ≤ 65535) : Ki l yX4_takes wsX4_takes rX4_takes D (tz cI cC cS) [.ref h, .int (jj lo), .int (jj hi)] (mW cI h ad σ α ς β τ q) (ltr τ le P - lo) (mW cI h ad σ α ς β τ (up (up q 11 1) 10 (P + 0))) := by
  refine q_entry (cc := cX4_takes) (nL := 4) (ret := (some .int)) (by decide) ⟨_, rfl⟩ (Nat.le_of_ble_eq_true rfl) ?_
  intro A pr en s m args below meth c C hin w ls hl
  have w := w
  have hl : lv_has ls 4 [(0, .ref h), (1, .int (jj lo)), (2, .int (jj hi))] := hl
  refine q_aload_n C hl dX4_takes_0 rfl 0 rfl ?_
  refine q_getM (v := .int (jj P)) C w.1 (fun w h => List.mem_cons_of_mem _ (List.mem_append_right _ h)) 10 (by decide) (List.mem_of_getElem? (i := 1) rfl) (gt_v rfl e10) dX4_takes_1 ?_
  refine q_aload_n C hl dX4_takes_4 rfl 0 rfl ?_
  refine q_getM (v := .int (jj le)) C w.1 (fun w h => List.mem_cons_of_mem _ (List.mem_append_right _ h)) 7 (by decide) (List.mem_of_getElem? (i := 2) rfl) (gt_v rfl e7) dX4_takes_5 ?_
  refine q_icmp_ge (tgt := 23) C dX4_takes_8 (by decide) ⟨by omega, by omega⟩ ⟨by omega, by omega⟩ (fun c1 => ?_) (fun c1 => ?_)
  · have c1 := c1
    have el := ltr_out (τ := τ) (le := le) (P := P) (by omega)
    refine q_iconst C dX4_takes_23 ?_
    refine q_istore_n (lv' := [(3, .int (jj 0)), (0, .ref h), (1, .int (jj lo)), (2, .int (jj hi))]) C hl dX4_takes_24 rfl (by decide) rfl (fun ls hl => ?_)
    refine q_aload_n C hl dX4_takes_25 rfl 1 rfl ?_
    refine q_aload_n C hl dX4_takes_26 rfl 1 rfl ?_
    refine q_getM (v := .int (jj wr)) C w.1 (fun w h => List.mem_cons_of_mem _ (List.mem_append_right _ h)) 11 (by decide) (List.mem_of_getElem? (i := 4) rfl) (gt_v rfl e11) dX4_takes_27 ?_
    refine q_if_ne (tgt := 42) C dX4_takes_30 (by decide) ⟨by omega, by omega⟩ (fun c2 => ?_) (fun c2 => ?_)
    · have c2 := c2
      refine q_iconst C dX4_takes_42 ?_
      refine q_goto (tgt := 47) C dX4_takes_43 (by decide) ?_
      refine q_putM C w (fun w h => List.mem_cons_of_mem _ (List.mem_append_right _ h)) 11 (by decide) (List.mem_of_getElem? (i := 4) rfl) rfl rfl (nar_b (by omega)) rfl dX4_takes_47 (mP11 cI h ad _ _ _ _ _ _ _) (fun H locs w => ?_)
      refine q_aload_n C hl dX4_takes_50 rfl 1 rfl ?_
      refine q_dup C dX4_takes_51 rfl ?_
      refine q_getM (v := .int (jj P)) C w.1 (fun w h => List.mem_cons_of_mem _ (List.mem_append_right _ h)) 10 (by decide) (List.mem_of_getElem? (i := 1) rfl) (gt_v rfl e10) dX4_takes_52 ?_
      refine q_aload_n C hl dX4_takes_55 rfl 1 rfl ?_
      refine q_getM (v := .int (jj 1)) C w.1 (fun w h => List.mem_cons_of_mem _ (List.mem_append_right _ h)) 11 (by decide) (List.mem_of_getElem? (i := 4) rfl) rfl dX4_takes_56 ?_
      refine q_if_eq (tgt := 66) C dX4_takes_59 (by decide) ⟨by omega, by omega⟩ (fun z => absurd z (by omega)) (fun _ => ?_)
      refine q_iconst C dX4_takes_62 ?_
      refine q_goto (tgt := 67) C dX4_takes_63 (by decide) ?_
      refine q_iadd C dX4_takes_67 ?_
      refine q_putM C w (fun w h => List.mem_cons_of_mem _ (List.mem_append_right _ h)) 10 (by decide) (List.mem_of_getElem? (i := 1) rfl) rfl rfl rfl rfl dX4_takes_68 (mP10 cI h ad _ _ _ _ _ _ _) (fun H locs w => ?_)
      refine q_iload_n C hl dX4_takes_71 rfl 0 rfl ?_
      refine q_iload_n C hl dX4_takes_72 rfl 2 rfl ?_
      refine q_isub C dX4_takes_73 ?_
      exact q_iret C w dX4_takes_74 (by omega) rfl
    · have c2 := c2
      refine q_iload_n C hl dX4_takes_33 rfl 0 rfl ?_
      refine q_iload_n C hl dX4_takes_34 rfl 2 rfl ?_
      refine q_iload_n C hl dX4_takes_35 rfl 3 rfl ?_
      refine q_runi C w fr_nil (q_S (As := [.int (jj 0), .int (jj lo), .int (jj hi)]) (rest := [.ref h]) C w fr_nil fX4_in gX4_takes_X4_in ⟨Nat.le_of_ble_eq_true rfl, Nat.le_of_ble_eq_true rfl⟩ (kX4_in l D cI cC cS 0 lo hi ⟨by omega, by omega⟩ ⟨by omega, by omega⟩ ⟨by omega, by omega⟩ _) rfl rfl hl (Nat.le_of_ble_eq_true rfl) dX4_takes_36 ⟨Nat.le_refl 0, Nat.le_refl 0⟩) (fun H locs w => ?_)
      refine q_ifz_ne (tgt := 46) C dX4_takes_39 (by decide) (fun c4 => ?_) (fun c4 => ?_)
      · exact absurd c4 (by omega)
      · have c4 := c4
        refine q_iconst C dX4_takes_42 ?_
        refine q_goto (tgt := 47) C dX4_takes_43 (by decide) ?_
        refine q_putM C w (fun w h => List.mem_cons_of_mem _ (List.mem_append_right _ h)) 11 (by decide) (List.mem_of_getElem? (i := 4) rfl) rfl rfl (nar_b (by omega)) rfl dX4_takes_47 (mP11 cI h ad _ _ _ _ _ _ _) (fun H locs w => ?_)
        refine q_aload_n C hl dX4_takes_50 rfl 1 rfl ?_
        refine q_dup C dX4_takes_51 rfl ?_
        refine q_getM (v := .int (jj P)) C w.1 (fun w h => List.mem_cons_of_mem _ (List.mem_append_right _ h)) 10 (by decide) (List.mem_of_getElem? (i := 1) rfl) (gt_v rfl e10) dX4_takes_52 ?_
        refine q_aload_n C hl dX4_takes_55 rfl 1 rfl ?_
        refine q_getM (v := .int (jj 1)) C w.1 (fun w h => List.mem_cons_of_mem _ (List.mem_append_right _ h)) 11 (by decide) (List.mem_of_getElem? (i := 4) rfl) rfl dX4_takes_56 ?_
        refine q_if_eq (tgt := 66) C dX4_takes_59 (by decide) ⟨by omega, by omega⟩ (fun z => absurd z (by omega)) (fun _ => ?_)
        refine q_iconst C dX4_takes_62 ?_
        refine q_goto (tgt := 67) C dX4_takes_63 (by decide) ?_
        refine q_iadd C dX4_takes_67 ?_
        refine q_putM C w (fun w h => List.mem_cons_of_mem _ (List.mem_append_right _ h)) 10 (by decide) (List.mem_of_getElem? (i := 1) rfl) rfl rfl rfl rfl dX4_takes_68 (mP10 cI h ad _ _ _ _ _ _ _) (fun H locs w => ?_)
        refine q_iload_n C hl dX4_takes_71 rfl 0 rfl ?_
        refine q_iload_n C hl dX4_takes_72 rfl 2 rfl ?_
        refine q_isub C dX4_takes_73 ?_
        exact q_iret C w dX4_takes_74 (by omega) rfl
  · have c1 := c1
    have el := ltr_in (τ := τ) (le := le) (P := P) (by omega)
    have ht := bt P (by omega) (by omega)
    refine q_aload_n C hl dX4_takes_11 rfl 0 rfl ?_
    refine q_getM C w.1 (fun w h => List.mem_cons_of_mem _ (List.mem_append_right _ h)) 6 (by decide) (List.mem_of_getElem? (i := 3) rfl) rfl dX4_takes_12 ?_
    refine q_aload_n C hl dX4_takes_15 rfl 0 rfl ?_
    refine q_getM (v := .int (jj P)) C w.1 (fun w h => List.mem_cons_of_mem _ (List.mem_append_right _ h)) 10 (by decide) (List.mem_of_getElem? (i := 1) rfl) (gt_v rfl e10) dX4_takes_16 ?_
    refine q_iald (n := 60) (f := τ) C w.1 5 0 rfl rfl ⟨by omega, by omega, by omega⟩ dX4_takes_19 ?_
    refine q_goto (tgt := 24) C dX4_takes_20 (by decide) ?_
    refine q_istore_n (lv' := [(3, .int (jj (τ P))), (0, .ref h), (1, .int (jj lo)), (2, .int (jj hi))]) C hl dX4_takes_24 rfl (by decide) rfl (fun ls hl => ?_)
    refine q_aload_n C hl dX4_takes_25 rfl 1 rfl ?_
    refine q_aload_n C hl dX4_takes_26 rfl 1 rfl ?_
    refine q_getM (v := .int (jj wr)) C w.1 (fun w h => List.mem_cons_of_mem _ (List.mem_append_right _ h)) 11 (by decide) (List.mem_of_getElem? (i := 4) rfl) (gt_v rfl e11) dX4_takes_27 ?_
    refine q_if_ne (tgt := 42) C dX4_takes_30 (by decide) ⟨by omega, by omega⟩ (fun c6 => ?_) (fun c6 => ?_)
    · have c6 := c6
      refine q_iconst C dX4_takes_42 ?_
      refine q_goto (tgt := 47) C dX4_takes_43 (by decide) ?_
      refine q_putM C w (fun w h => List.mem_cons_of_mem _ (List.mem_append_right _ h)) 11 (by decide) (List.mem_of_getElem? (i := 4) rfl) rfl rfl (nar_b (by omega)) rfl dX4_takes_47 (mP11 cI h ad _ _ _ _ _ _ _) (fun H locs w => ?_)
      refine q_aload_n C hl dX4_takes_50 rfl 1 rfl ?_
      refine q_dup C dX4_takes_51 rfl ?_
      refine q_getM (v := .int (jj P)) C w.1 (fun w h => List.mem_cons_of_mem _ (List.mem_append_right _ h)) 10 (by decide) (List.mem_of_getElem? (i := 1) rfl) (gt_v rfl e10) dX4_takes_52 ?_
      refine q_aload_n C hl dX4_takes_55 rfl 1 rfl ?_
      refine q_getM (v := .int (jj 1)) C w.1 (fun w h => List.mem_cons_of_mem _ (List.mem_append_right _ h)) 11 (by decide) (List.mem_of_getElem? (i := 4) rfl) rfl dX4_takes_56 ?_
      refine q_if_eq (tgt := 66) C dX4_takes_59 (by decide) ⟨by omega, by omega⟩ (fun z => absurd z (by omega)) (fun _ => ?_)
      refine q_iconst C dX4_takes_62 ?_
      refine q_goto (tgt := 67) C dX4_takes_63 (by decide) ?_
      refine q_iadd C dX4_takes_67 ?_
      refine q_putM C w (fun w h => List.mem_cons_of_mem _ (List.mem_append_right _ h)) 10 (by decide) (List.mem_of_getElem? (i := 1) rfl) rfl rfl rfl rfl dX4_takes_68 (mP10 cI h ad _ _ _ _ _ _ _) (fun H locs w => ?_)
      refine q_iload_n C hl dX4_takes_71 rfl 0 rfl ?_
      refine q_iload_n C hl dX4_takes_72 rfl 2 rfl ?_
      refine q_isub C dX4_takes_73 ?_
      exact q_iret C w dX4_takes_74 (by omega) rfl
    · have c6 := c6
      refine q_iload_n C hl dX4_takes_33 rfl 0 rfl ?_
      refine q_iload_n C hl dX4_takes_34 rfl 2 rfl ?_
      refine q_iload_n C hl dX4_takes_35 rfl 3 rfl ?_
      refine q_runi C w fr_nil (q_S (As := [.int (jj (τ P)), .int (jj lo), .int (jj hi)]) (rest := [.ref h]) C w fr_nil fX4_in gX4_takes_X4_in ⟨Nat.le_of_ble_eq_true rfl, Nat.le_of_ble_eq_true rfl⟩ (kX4_in l D cI cC cS (τ P) lo hi ⟨by omega, by omega⟩ ⟨by omega, by omega⟩ ⟨by omega, by omega⟩ _) rfl rfl hl (Nat.le_of_ble_eq_true rfl) dX4_takes_36 ⟨Nat.le_refl 0, Nat.le_refl 0⟩) (fun H locs w => ?_)
      refine q_ifz_ne (tgt := 46) C dX4_takes_39 (by decide) (fun c8 => ?_) (fun c8 => ?_)
      · exact absurd c8 (by omega)
      · have c8 := c8
        refine q_iconst C dX4_takes_42 ?_
        refine q_goto (tgt := 47) C dX4_takes_43 (by decide) ?_
        refine q_putM C w (fun w h => List.mem_cons_of_mem _ (List.mem_append_right _ h)) 11 (by decide) (List.mem_of_getElem? (i := 4) rfl) rfl rfl (nar_b (by omega)) rfl dX4_takes_47 (mP11 cI h ad _ _ _ _ _ _ _) (fun H locs w => ?_)
        refine q_aload_n C hl dX4_takes_50 rfl 1 rfl ?_
        refine q_dup C dX4_takes_51 rfl ?_
        refine q_getM (v := .int (jj P)) C w.1 (fun w h => List.mem_cons_of_mem _ (List.mem_append_right _ h)) 10 (by decide) (List.mem_of_getElem? (i := 1) rfl) (gt_v rfl e10) dX4_takes_52 ?_
        refine q_aload_n C hl dX4_takes_55 rfl 1 rfl ?_
        refine q_getM (v := .int (jj 1)) C w.1 (fun w h => List.mem_cons_of_mem _ (List.mem_append_right _ h)) 11 (by decide) (List.mem_of_getElem? (i := 4) rfl) rfl dX4_takes_56 ?_
        refine q_if_eq (tgt := 66) C dX4_takes_59 (by decide) ⟨by omega, by omega⟩ (fun z => absurd z (by omega)) (fun _ => ?_)
        refine q_iconst C dX4_takes_62 ?_
        refine q_goto (tgt := 67) C dX4_takes_63 (by decide) ?_
        refine q_iadd C dX4_takes_67 ?_
        refine q_putM C w (fun w h => List.mem_cons_of_mem _ (List.mem_append_right _ h)) 10 (by decide) (List.mem_of_getElem? (i := 1) rfl) rfl rfl rfl rfl dX4_takes_68 (mP10 cI h ad _ _ _ _ _ _ _) (fun H locs w => ?_)
        refine q_iload_n C hl dX4_takes_71 rfl 0 rfl ?_
        refine q_iload_n C hl dX4_takes_72 rfl 2 rfl ?_
        refine q_isub C dX4_takes_73 ?_
        exact q_iret C w dX4_takes_74 (by omega) rfl

def rX4_takesNumber : Room := { frames := 2, cells := 0, slots := 0, locals := 45 }
theorem fX4_takesNumber : Fc yX4_takesNumber wsX4_takesNumber rX4_takesNumber cX4_takesNumber 5 (some .int) 2 := ⟨⟨_, rfl⟩, rfl, rfl, by decide +kernel, by decide +kernel, by decide +kernel⟩
set_option maxHeartbeats 4000000 in
set_option maxRecDepth 10000 in
theorem kX4_takesNumber_ok (l : Launch) (D : va_G) (cI cC cS : ClassId) (h : Nat) (ad : Nat → Nat) (σ α ς β τ q : Int → Int) (P le : Int) (lw ms : Int) (e10 : q 10 = P) (e7 : q 7 = le) (e11 : q 11 = 0) (bpP : 0 ≤ P ∧ P ≤ 100) (ble : 0 ≤ le ∧ le ≤ 60) (bt : ∀ x : Int, 0 ≤ x → x < le → 0 ≤ τ x ∧ τ x ≤ 65535) (hc : nok τ le P lw) (bls : 0 ≤ lw ∧ lw ≤ 1) (bms : 9 ≤ ms ∧ ms ≤ 99) : Ki l yX4_takesNumber wsX4_takesNumber rX4_takesNumber D (tz cI cC cS) [.ref h, .int (jj lw), .int (jj ms)] (mW cI h ad σ α ς β τ q) (nva τ le P ms) (mW cI h ad σ α ς β τ (up (up q 11 0) 10 (nen τ le P ms))) := by
  have hnb := nen_b (τ := τ) (le := le) (P := P) (ls := lw) (ms := ms) hc bls.1
  refine q_entry (cc := cX4_takesNumber) (nL := 5) (ret := (some .int)) (by decide) ⟨_, rfl⟩ (Nat.le_of_ble_eq_true rfl) ?_
  intro A pr en s m args below meth c C hin w ls hl
  have w := w
  have hl : lv_has ls 5 [(0, .ref h), (1, .int (jj lw)), (2, .int (jj ms))] := hl
  refine q_iload_n C hl dX4_takesNumber_0 rfl 1 rfl ?_
  refine q_aload_n C hl dX4_takesNumber_1 rfl 0 rfl ?_
  refine q_bipush C dX4_takesNumber_2 (by decide) ?_
  refine q_iload_n C hl dX4_takesNumber_4 rfl 1 rfl ?_
  refine q_iadd C dX4_takesNumber_5 ?_
  refine q_bipush C dX4_takesNumber_6 (by decide) ?_
  refine q_runi C w fr_all (q_V (As := [.int (jj (48 + lw)), .int (jj 57)]) (rest := [.int (jj lw)]) C w fr_all fX4_takes gX4_takesNumber_X4_takes rfl ⟨Nat.le_of_ble_eq_true rfl, Nat.le_of_ble_eq_true rfl⟩ (kX4_takes_ok l D cI cC cS h ad σ α ς β τ q P le (48 + lw) 57 e10 e7 e11 (by omega) (by omega) bt (by omega) (by omega) _) (q0 := 0) rfl rfl rfl rfl hl (Nat.le_of_ble_eq_true rfl) dX4_takesNumber_8 ⟨Nat.le_refl 0, Nat.le_refl 0⟩) (fun H locs w => ?_)
  refine q_iadd C dX4_takesNumber_11 ?_
  refine q_istore_n (lv' := [(3, .int (jj (lw + (ltr τ le P - (48 + lw))))), (0, .ref h), (1, .int (jj lw)), (2, .int (jj ms))]) C hl dX4_takesNumber_12 rfl (by decide) rfl (fun ls hl => ?_)
  refine q_iload_n C hl dX4_takesNumber_13 rfl 0 rfl ?_
  refine q_if_le (tgt := 21) C dX4_takesNumber_14 (by decide) ⟨by omega, by omega⟩ (fun c1 => ?_) (fun c1 => ?_)
  · have c1 := c1
    refine q_iconst C dX4_takesNumber_21 ?_
    refine q_istore (lv' := [(4, .int (jj 0)), (3, .int (jj (lw + (ltr τ le P - (48 + lw))))), (0, .ref h), (1, .int (jj lw)), (2, .int (jj ms))]) C hl dX4_takesNumber_22 (by decide) rfl (fun ls hl => ?_)
    refine q_iload C hl dX4_takesNumber_24 0 rfl ?_
    refine q_if_eq (tgt := 94) C dX4_takesNumber_26 (by decide) ⟨by omega, by omega⟩ (fun _ => ?_) (fun z => absurd z (by omega))
    refine q_iload_n C hl dX4_takesNumber_94 rfl 1 rfl ?_
    exact q_iret C w dX4_takesNumber_95 (by unfold nva; (repeat' split) <;> omega) (by have en : nen τ le P ms = P + 1 := if_neg (by omega); rw [en])
  · have c1 := c1
    refine q_iconst C dX4_takesNumber_17 ?_
    refine q_goto (tgt := 22) C dX4_takesNumber_18 (by decide) ?_
    refine q_istore (lv' := [(4, .int (jj 1)), (3, .int (jj (lw + (ltr τ le P - (48 + lw))))), (0, .ref h), (1, .int (jj lw)), (2, .int (jj ms))]) C hl dX4_takesNumber_22 (by decide) rfl (fun ls hl => ?_)
    refine q_iload C hl dX4_takesNumber_24 0 rfl ?_
    refine q_if_eq (tgt := 94) C dX4_takesNumber_26 (by decide) ⟨by omega, by omega⟩ (fun z => absurd z (by omega)) (fun _ => ?_)
    refine q_aload_n C hl dX4_takesNumber_29 rfl 2 rfl ?_
    refine q_bipush C dX4_takesNumber_30 (by decide) ?_
    refine q_bipush C dX4_takesNumber_32 (by decide) ?_
    refine q_runi C w fr_all (q_V (As := [.int (jj 48), .int (jj 57)]) (rest := []) C w fr_all fX4_isNext gX4_takesNumber_X4_isNext rfl ⟨Nat.le_of_ble_eq_true rfl, Nat.le_of_ble_eq_true rfl⟩ (kX4_isNext l D cI cC cS h ad σ α ς β τ (up (up q 11 0) 10 (P + 1)) (P + 1) le 0 48 57 rfl e7 rfl (by omega) (by omega) bt (by omega) (by omega) _) (q0 := 0) rfl rfl rfl rfl hl (Nat.le_of_ble_eq_true rfl) dX4_takesNumber_34 ⟨Nat.le_refl 0, Nat.le_refl 0⟩) (fun H locs w => ?_)
    refine q_ifz_eq (tgt := 65) C dX4_takesNumber_37 (by decide) (fun c4 => ?_) (fun c4 => ?_)
    · have c4 := c4
      refine q_iconst C dX4_takesNumber_65 ?_
      refine q_istore (lv' := [(4, .int (jj 0)), (3, .int (jj (lw + (ltr τ le P - (48 + lw))))), (0, .ref h), (1, .int (jj lw)), (2, .int (jj ms))]) C hl dX4_takesNumber_66 (by decide) rfl (fun ls hl => ?_)
      refine q_iload C hl dX4_takesNumber_68 0 rfl ?_
      refine q_if_eq (tgt := 89) C dX4_takesNumber_70 (by decide) ⟨by omega, by omega⟩ (fun _ => ?_) (fun z => absurd z (by omega))
      refine q_iload_n C hl dX4_takesNumber_89 rfl 1 rfl ?_
      refine q_istore_n (lv' := [(3, .int (jj (lw + (ltr τ le P - (48 + lw))))), (4, .int (jj 0)), (0, .ref h), (1, .int (jj lw)), (2, .int (jj ms))]) C hl dX4_takesNumber_90 rfl (by decide) rfl (fun ls hl => ?_)
      refine q_goto (tgt := 24) C dX4_takesNumber_91 (by decide) ?_
      refine q_iload C hl dX4_takesNumber_24 1 rfl ?_
      refine q_if_eq (tgt := 94) C dX4_takesNumber_26 (by decide) ⟨by omega, by omega⟩ (fun _ => ?_) (fun z => absurd z (by omega))
      refine q_iload_n C hl dX4_takesNumber_94 rfl 0 rfl ?_
      exact q_iret C w dX4_takesNumber_95 (by unfold nva; (repeat' split) <;> omega) (by have en : nen τ le P ms = P + 1 := if_neg (by omega); rw [en])
    · have c4 := c4
      have ht := bt (P + 1) (by omega) (by omega)
      refine q_bipush C dX4_takesNumber_40 (by decide) ?_
      refine q_iload_n C hl dX4_takesNumber_42 rfl 1 rfl ?_
      refine q_imul C dX4_takesNumber_43 ?_
      refine q_aload_n C hl dX4_takesNumber_44 rfl 2 rfl ?_
      refine q_getM C w.1 (fun w h => List.mem_cons_of_mem _ (List.mem_append_right _ h)) 6 (by decide) (List.mem_of_getElem? (i := 1) rfl) rfl dX4_takesNumber_45 ?_
      refine q_aload_n C hl dX4_takesNumber_48 rfl 2 rfl ?_
      refine q_getM (v := .int (jj (P + 1))) C w.1 (fun w h => List.mem_cons_of_mem _ (List.mem_append_right _ h)) 10 (by decide) (List.mem_of_getElem? (i := 2) rfl) rfl dX4_takesNumber_49 ?_
      refine q_iald (n := 60) (f := τ) C w.1 5 0 rfl rfl ⟨by omega, by omega, by omega⟩ dX4_takesNumber_52 ?_
      refine q_iadd C dX4_takesNumber_53 ?_
      refine q_bipush C dX4_takesNumber_54 (by decide) ?_
      refine q_isub C dX4_takesNumber_56 ?_
      refine q_iload_n C hl dX4_takesNumber_57 rfl 4 rfl ?_
      refine q_icmp_gt (tgt := 65) C dX4_takesNumber_58 (by decide) ⟨by omega, by omega⟩ ⟨by omega, by omega⟩ (fun c7 => ?_) (fun c7 => ?_)
      · have c7 := c7
        refine q_iconst C dX4_takesNumber_65 ?_
        refine q_istore (lv' := [(4, .int (jj 0)), (3, .int (jj (lw + (ltr τ le P - (48 + lw))))), (0, .ref h), (1, .int (jj lw)), (2, .int (jj ms))]) C hl dX4_takesNumber_66 (by decide) rfl (fun ls hl => ?_)
        refine q_iload C hl dX4_takesNumber_68 0 rfl ?_
        refine q_if_eq (tgt := 89) C dX4_takesNumber_70 (by decide) ⟨by omega, by omega⟩ (fun _ => ?_) (fun z => absurd z (by omega))
        refine q_iload_n C hl dX4_takesNumber_89 rfl 1 rfl ?_
        refine q_istore_n (lv' := [(3, .int (jj (lw + (ltr τ le P - (48 + lw))))), (4, .int (jj 0)), (0, .ref h), (1, .int (jj lw)), (2, .int (jj ms))]) C hl dX4_takesNumber_90 rfl (by decide) rfl (fun ls hl => ?_)
        refine q_goto (tgt := 24) C dX4_takesNumber_91 (by decide) ?_
        refine q_iload C hl dX4_takesNumber_24 1 rfl ?_
        refine q_if_eq (tgt := 94) C dX4_takesNumber_26 (by decide) ⟨by omega, by omega⟩ (fun _ => ?_) (fun z => absurd z (by omega))
        refine q_iload_n C hl dX4_takesNumber_94 rfl 0 rfl ?_
        exact q_iret C w dX4_takesNumber_95 (by unfold nva; (repeat' split) <;> omega) (by have en : nen τ le P ms = P + 1 := if_neg (by omega); rw [en])
      · have c7 := c7
        refine q_iconst C dX4_takesNumber_61 ?_
        refine q_goto (tgt := 66) C dX4_takesNumber_62 (by decide) ?_
        refine q_istore (lv' := [(4, .int (jj 1)), (3, .int (jj (lw + (ltr τ le P - (48 + lw))))), (0, .ref h), (1, .int (jj lw)), (2, .int (jj ms))]) C hl dX4_takesNumber_66 (by decide) rfl (fun ls hl => ?_)
        refine q_iload C hl dX4_takesNumber_68 0 rfl ?_
        refine q_if_eq (tgt := 89) C dX4_takesNumber_70 (by decide) ⟨by omega, by omega⟩ (fun z => absurd z (by omega)) (fun _ => ?_)
        refine q_bipush C dX4_takesNumber_73 (by decide) ?_
        refine q_iload_n C hl dX4_takesNumber_75 rfl 1 rfl ?_
        have el := ltr_in (τ := τ) (le := le) (P := (P + 1)) (by omega)
        refine q_imul C dX4_takesNumber_76 ?_
        refine q_aload_n C hl dX4_takesNumber_77 rfl 2 rfl ?_
        refine q_bipush C dX4_takesNumber_78 (by decide) ?_
        refine q_bipush C dX4_takesNumber_80 (by decide) ?_
        refine q_runi C w fr_all (q_V (As := [.int (jj 48), .int (jj 57)]) (rest := [.int (jj (10 * (lw + (ltr τ le P - (48 + lw)))))]) C w fr_all fX4_takes gX4_takesNumber_X4_takes rfl ⟨Nat.le_of_ble_eq_true rfl, Nat.le_of_ble_eq_true rfl⟩ (kX4_takes_ok l D cI cC cS h ad σ α ς β τ (up (up q 11 0) 10 (P + 1)) (P + 1) le 48 57 rfl e7 rfl (by omega) (by omega) bt (by omega) (by omega) _) (q0 := 0) rfl rfl rfl rfl hl (Nat.le_of_ble_eq_true rfl) dX4_takesNumber_82 ⟨Nat.le_refl 0, Nat.le_refl 0⟩) (fun H locs w => ?_)
        refine q_iadd C dX4_takesNumber_85 ?_
        refine q_goto (tgt := 90) C dX4_takesNumber_86 (by decide) ?_
        refine q_istore_n (lv' := [(3, .int (jj ((10 * (lw + (ltr τ le P - (48 + lw)))) + (ltr τ le (P + 1) - 48)))), (4, .int (jj 1)), (0, .ref h), (1, .int (jj lw)), (2, .int (jj ms))]) C hl dX4_takesNumber_90 rfl (by decide) rfl (fun ls hl => ?_)
        refine q_goto (tgt := 24) C dX4_takesNumber_91 (by decide) ?_
        refine q_iload C hl dX4_takesNumber_24 1 rfl ?_
        refine q_if_eq (tgt := 94) C dX4_takesNumber_26 (by decide) ⟨by omega, by omega⟩ (fun z => absurd z (by omega)) (fun _ => ?_)
        refine q_aload_n C hl dX4_takesNumber_29 rfl 2 rfl ?_
        refine q_bipush C dX4_takesNumber_30 (by decide) ?_
        refine q_bipush C dX4_takesNumber_32 (by decide) ?_
        refine q_runi C w fr_all (q_V (As := [.int (jj 48), .int (jj 57)]) (rest := []) C w fr_all fX4_isNext gX4_takesNumber_X4_isNext rfl ⟨Nat.le_of_ble_eq_true rfl, Nat.le_of_ble_eq_true rfl⟩ (kX4_isNext l D cI cC cS h ad σ α ς β τ (up (up (up (up q 11 0) 10 (P + 1)) 11 0) 10 ((P + 1) + 1)) ((P + 1) + 1) le 0 48 57 rfl e7 rfl (by omega) (by omega) bt (by omega) (by omega) _) (q0 := 0) rfl rfl rfl rfl hl (Nat.le_of_ble_eq_true rfl) dX4_takesNumber_34 ⟨Nat.le_refl 0, Nat.le_refl 0⟩) (fun H locs w => ?_)
        refine q_ifz_eq (tgt := 65) C dX4_takesNumber_37 (by decide) (fun c12 => ?_) (fun c12 => ?_)
        · have c12 := c12
          refine q_iconst C dX4_takesNumber_65 ?_
          refine q_istore (lv' := [(4, .int (jj 0)), (3, .int (jj ((10 * (lw + (ltr τ le P - (48 + lw)))) + (ltr τ le (P + 1) - 48)))), (0, .ref h), (1, .int (jj lw)), (2, .int (jj ms))]) C hl dX4_takesNumber_66 (by decide) rfl (fun ls hl => ?_)
          refine q_iload C hl dX4_takesNumber_68 0 rfl ?_
          refine q_if_eq (tgt := 89) C dX4_takesNumber_70 (by decide) ⟨by omega, by omega⟩ (fun _ => ?_) (fun z => absurd z (by omega))
          refine q_iload_n C hl dX4_takesNumber_89 rfl 1 rfl ?_
          refine q_istore_n (lv' := [(3, .int (jj ((10 * (lw + (ltr τ le P - (48 + lw)))) + (ltr τ le (P + 1) - 48)))), (4, .int (jj 0)), (0, .ref h), (1, .int (jj lw)), (2, .int (jj ms))]) C hl dX4_takesNumber_90 rfl (by decide) rfl (fun ls hl => ?_)
          refine q_goto (tgt := 24) C dX4_takesNumber_91 (by decide) ?_
          refine q_iload C hl dX4_takesNumber_24 1 rfl ?_
          refine q_if_eq (tgt := 94) C dX4_takesNumber_26 (by decide) ⟨by omega, by omega⟩ (fun _ => ?_) (fun z => absurd z (by omega))
          refine q_iload_n C hl dX4_takesNumber_94 rfl 0 rfl ?_
          exact q_iret C w dX4_takesNumber_95 (by unfold nva; (repeat' split) <;> omega) (by have en : nen τ le P ms = P + 2 := if_pos (by omega); rw [en, up4, show P + 1 + 1 = P + 2 by omega])
        · have c12 := c12
          have ht := bt ((P + 1) + 1) (by omega) (by omega)
          refine q_bipush C dX4_takesNumber_40 (by decide) ?_
          refine q_iload_n C hl dX4_takesNumber_42 rfl 0 rfl ?_
          refine q_imul C dX4_takesNumber_43 ?_
          refine q_aload_n C hl dX4_takesNumber_44 rfl 2 rfl ?_
          refine q_getM C w.1 (fun w h => List.mem_cons_of_mem _ (List.mem_append_right _ h)) 6 (by decide) (List.mem_of_getElem? (i := 1) rfl) rfl dX4_takesNumber_45 ?_
          refine q_aload_n C hl dX4_takesNumber_48 rfl 2 rfl ?_
          refine q_getM (v := .int (jj ((P + 1) + 1))) C w.1 (fun w h => List.mem_cons_of_mem _ (List.mem_append_right _ h)) 10 (by decide) (List.mem_of_getElem? (i := 2) rfl) rfl dX4_takesNumber_49 ?_
          refine q_iald (n := 60) (f := τ) C w.1 5 0 rfl rfl ⟨by omega, by omega, by omega⟩ dX4_takesNumber_52 ?_
          refine q_iadd C dX4_takesNumber_53 ?_
          refine q_bipush C dX4_takesNumber_54 (by decide) ?_
          refine q_isub C dX4_takesNumber_56 ?_
          refine q_iload_n C hl dX4_takesNumber_57 rfl 4 rfl ?_
          refine q_icmp_gt (tgt := 65) C dX4_takesNumber_58 (by decide) ⟨by omega, by omega⟩ ⟨by omega, by omega⟩ (fun c15 => ?_) (fun c15 => ?_)
          · have c15 := c15
            refine q_iconst C dX4_takesNumber_65 ?_
            refine q_istore (lv' := [(4, .int (jj 0)), (3, .int (jj ((10 * (lw + (ltr τ le P - (48 + lw)))) + (ltr τ le (P + 1) - 48)))), (0, .ref h), (1, .int (jj lw)), (2, .int (jj ms))]) C hl dX4_takesNumber_66 (by decide) rfl (fun ls hl => ?_)
            refine q_iload C hl dX4_takesNumber_68 0 rfl ?_
            refine q_if_eq (tgt := 89) C dX4_takesNumber_70 (by decide) ⟨by omega, by omega⟩ (fun _ => ?_) (fun z => absurd z (by omega))
            refine q_iload_n C hl dX4_takesNumber_89 rfl 1 rfl ?_
            refine q_istore_n (lv' := [(3, .int (jj ((10 * (lw + (ltr τ le P - (48 + lw)))) + (ltr τ le (P + 1) - 48)))), (4, .int (jj 0)), (0, .ref h), (1, .int (jj lw)), (2, .int (jj ms))]) C hl dX4_takesNumber_90 rfl (by decide) rfl (fun ls hl => ?_)
            refine q_goto (tgt := 24) C dX4_takesNumber_91 (by decide) ?_
            refine q_iload C hl dX4_takesNumber_24 1 rfl ?_
            refine q_if_eq (tgt := 94) C dX4_takesNumber_26 (by decide) ⟨by omega, by omega⟩ (fun _ => ?_) (fun z => absurd z (by omega))
            refine q_iload_n C hl dX4_takesNumber_94 rfl 0 rfl ?_
            exact q_iret C w dX4_takesNumber_95 (by unfold nva; (repeat' split) <;> omega) (by have en : nen τ le P ms = P + 2 := if_pos (by omega); rw [en, up4, show P + 1 + 1 = P + 2 by omega])
          · exact absurd c15 (by omega)

set_option maxHeartbeats 4000000 in
set_option maxRecDepth 10000 in
theorem kX4_takesNumber_bad (l : Launch) (D : va_G) (cI cC cS : ClassId) (h : Nat) (ad : Nat → Nat) (σ α ς β τ q : Int → Int) (P le wr : Int) (lw ms : Int) (e10 : q 10 = P) (e7 : q 7 = le) (e11 : q 11 = wr) (bpP : 0 ≤ P ∧ P ≤ 100) (ble : 0 ≤ le ∧ le ≤ 60) (bt : ∀ x : Int, 0 ≤ x → x < le → 0 ≤ τ x ∧ τ x ≤ 65535) (bwr : wr = 0 ∨ wr = 1) (hc : wr = 1 ∨ ¬ nok τ le P lw) (bls : 0 ≤ lw ∧ lw ≤ 1) : Ki l yX4_takesNumber wsX4_takesNumber rX4_takesNumber D (tz cI cC cS) [.ref h, .int (jj lw), .int (jj ms)] (mW cI h ad σ α ς β τ q) (ltr τ le P - 48) (mW cI h ad σ α ς β τ (up (up q 11 1) 10 (P + 0))) := by
  have hl := ltr_b (le := le) (P := P) bpP.1 bt
  refine q_entry (cc := cX4_takesNumber) (nL := 5) (ret := (some .int)) (by decide) ⟨_, rfl⟩ (Nat.le_of_ble_eq_true rfl) ?_
  intro A pr en s m args below meth c C hin w ls hl
  have w := w
  have hl : lv_has ls 5 [(0, .ref h), (1, .int (jj lw)), (2, .int (jj ms))] := hl
  refine q_iload_n C hl dX4_takesNumber_0 rfl 1 rfl ?_
  refine q_aload_n C hl dX4_takesNumber_1 rfl 0 rfl ?_
  refine q_bipush C dX4_takesNumber_2 (by decide) ?_
  refine q_iload_n C hl dX4_takesNumber_4 rfl 1 rfl ?_
  refine q_iadd C dX4_takesNumber_5 ?_
  refine q_bipush C dX4_takesNumber_6 (by decide) ?_
  refine q_runi C w fr_all (q_V (As := [.int (jj (48 + lw)), .int (jj 57)]) (rest := [.int (jj lw)]) C w fr_all fX4_takes gX4_takesNumber_X4_takes rfl ⟨Nat.le_of_ble_eq_true rfl, Nat.le_of_ble_eq_true rfl⟩ (kX4_takes_bad l D cI cC cS h ad σ α ς β τ q P le wr (48 + lw) 57 e10 e7 e11 (by omega) (by omega) bt (by omega) (by omega) (by omega) _) (q0 := 0) rfl rfl rfl rfl hl (Nat.le_of_ble_eq_true rfl) dX4_takesNumber_8 ⟨Nat.le_refl 0, Nat.le_refl 0⟩) (fun H locs w => ?_)
  refine q_iadd C dX4_takesNumber_11 ?_
  refine q_istore_n (lv' := [(3, .int (jj (lw + (ltr τ le P - (48 + lw))))), (0, .ref h), (1, .int (jj lw)), (2, .int (jj ms))]) C hl dX4_takesNumber_12 rfl (by decide) rfl (fun ls hl => ?_)
  refine q_iload_n C hl dX4_takesNumber_13 rfl 0 rfl ?_
  refine q_if_le (tgt := 21) C dX4_takesNumber_14 (by decide) ⟨by omega, by omega⟩ (fun c1 => ?_) (fun c1 => ?_)
  · have c1 := c1
    refine q_iconst C dX4_takesNumber_21 ?_
    refine q_istore (lv' := [(4, .int (jj 0)), (3, .int (jj (lw + (ltr τ le P - (48 + lw))))), (0, .ref h), (1, .int (jj lw)), (2, .int (jj ms))]) C hl dX4_takesNumber_22 (by decide) rfl (fun ls hl => ?_)
    refine q_iload C hl dX4_takesNumber_24 0 rfl ?_
    refine q_if_eq (tgt := 94) C dX4_takesNumber_26 (by decide) ⟨by omega, by omega⟩ (fun _ => ?_) (fun z => absurd z (by omega))
    refine q_iload_n C hl dX4_takesNumber_94 rfl 1 rfl ?_
    exact q_iret C w dX4_takesNumber_95 (by omega) rfl
  · have c1 := c1
    refine q_iconst C dX4_takesNumber_17 ?_
    refine q_goto (tgt := 22) C dX4_takesNumber_18 (by decide) ?_
    refine q_istore (lv' := [(4, .int (jj 1)), (3, .int (jj (lw + (ltr τ le P - (48 + lw))))), (0, .ref h), (1, .int (jj lw)), (2, .int (jj ms))]) C hl dX4_takesNumber_22 (by decide) rfl (fun ls hl => ?_)
    refine q_iload C hl dX4_takesNumber_24 0 rfl ?_
    refine q_if_eq (tgt := 94) C dX4_takesNumber_26 (by decide) ⟨by omega, by omega⟩ (fun z => absurd z (by omega)) (fun _ => ?_)
    refine q_aload_n C hl dX4_takesNumber_29 rfl 2 rfl ?_
    refine q_bipush C dX4_takesNumber_30 (by decide) ?_
    refine q_bipush C dX4_takesNumber_32 (by decide) ?_
    refine q_runi C w fr_all (q_V (As := [.int (jj 48), .int (jj 57)]) (rest := []) C w fr_all fX4_isNext gX4_takesNumber_X4_isNext rfl ⟨Nat.le_of_ble_eq_true rfl, Nat.le_of_ble_eq_true rfl⟩ (kX4_isNext l D cI cC cS h ad σ α ς β τ (up (up q 11 1) 10 (P + 0)) (P + 0) le 1 48 57 rfl e7 rfl (by omega) (by omega) bt (by omega) (by omega) _) (q0 := 0) rfl rfl rfl rfl hl (Nat.le_of_ble_eq_true rfl) dX4_takesNumber_34 ⟨Nat.le_refl 0, Nat.le_refl 0⟩) (fun H locs w => ?_)
    refine q_ifz_eq (tgt := 65) C dX4_takesNumber_37 (by decide) (fun c4 => ?_) (fun c4 => ?_)
    · have c4 := c4
      refine q_iconst C dX4_takesNumber_65 ?_
      refine q_istore (lv' := [(4, .int (jj 0)), (3, .int (jj (lw + (ltr τ le P - (48 + lw))))), (0, .ref h), (1, .int (jj lw)), (2, .int (jj ms))]) C hl dX4_takesNumber_66 (by decide) rfl (fun ls hl => ?_)
      refine q_iload C hl dX4_takesNumber_68 0 rfl ?_
      refine q_if_eq (tgt := 89) C dX4_takesNumber_70 (by decide) ⟨by omega, by omega⟩ (fun _ => ?_) (fun z => absurd z (by omega))
      refine q_iload_n C hl dX4_takesNumber_89 rfl 1 rfl ?_
      refine q_istore_n (lv' := [(3, .int (jj (lw + (ltr τ le P - (48 + lw))))), (4, .int (jj 0)), (0, .ref h), (1, .int (jj lw)), (2, .int (jj ms))]) C hl dX4_takesNumber_90 rfl (by decide) rfl (fun ls hl => ?_)
      refine q_goto (tgt := 24) C dX4_takesNumber_91 (by decide) ?_
      refine q_iload C hl dX4_takesNumber_24 1 rfl ?_
      refine q_if_eq (tgt := 94) C dX4_takesNumber_26 (by decide) ⟨by omega, by omega⟩ (fun _ => ?_) (fun z => absurd z (by omega))
      refine q_iload_n C hl dX4_takesNumber_94 rfl 0 rfl ?_
      exact q_iret C w dX4_takesNumber_95 (by omega) rfl
    · exact absurd c4 (by omega)

def rX4_readThing : Room := { frames := 3, cells := 0, slots := 0, locals := 69 }
theorem fX4_readThing : Fc yX4_readThing wsX4_readThing rX4_readThing cX4_readThing 1 none 0 := ⟨⟨_, rfl⟩, rfl, rfl, by decide +kernel, by decide +kernel, by decide +kernel⟩
set_option maxHeartbeats 4000000 in
set_option maxRecDepth 10000 in
theorem kX4_readThing_ok (l : Launch) (D : va_G) (cI cC cS : ClassId) (h : Nat) (ad : Nat → Nat) (σ α ς β τ q : Int → Int) (P le : Int)  (e10 : q 10 = P) (e7 : q 7 = le) (e11 : q 11 = 0) (bpP : 0 ≤ P ∧ P ≤ 100) (ble : 0 ≤ le ∧ le ≤ 60) (bt : ∀ x : Int, 0 ≤ x → x < le → 0 ≤ τ x ∧ τ x ≤ 65535) (htok : tok τ le P) : Kv l yX4_readThing wsX4_readThing rX4_readThing D (tz cI cC cS) [.ref h] (mW cI h ad σ α ς β τ q) (mW cI h ad σ α ς β τ (rq τ q le P)) := by
  have hlt := tok_lt htok
  have el := ltr_in (τ := τ) hlt
  have hl := ltr_b (le := le) (P := P) bpP.1 bt
  refine q_entry (cc := cX4_readThing) (nL := 1) (ret := none) (by decide) ⟨_, rfl⟩ (Nat.le_of_ble_eq_true rfl) ?_
  intro A pr en s m args below meth c C hin w ls hl
  have w := w
  have hl : lv_has ls 1 [(0, .ref h)] := hl
  refine q_aload_n C hl dX4_readThing_0 rfl 0 rfl ?_
  refine q_aload_n C hl dX4_readThing_1 rfl 0 rfl ?_
  refine q_getM (v := .int (jj P)) C w.1 (fun w h => List.mem_cons_of_mem _ (List.mem_append_right _ h)) 10 (by decide) (List.mem_of_getElem? (i := 1) rfl) (gt_v rfl e10) dX4_readThing_2 ?_
  refine q_aload_n C hl dX4_readThing_5 rfl 0 rfl ?_
  refine q_getM (v := .int (jj le)) C w.1 (fun w h => List.mem_cons_of_mem _ (List.mem_append_right _ h)) 7 (by decide) (List.mem_of_getElem? (i := 2) rfl) (gt_v rfl e7) dX4_readThing_6 ?_
  refine q_icmp_ge (tgt := 24) C dX4_readThing_9 (by decide) ⟨by omega, by omega⟩ ⟨by omega, by omega⟩ (fun c1 => ?_) (fun c1 => ?_)
  · exact absurd c1 (by omega)
  · have c1 := c1
    refine q_aload_n C hl dX4_readThing_12 rfl 0 rfl ?_
    refine q_getM C w.1 (fun w h => List.mem_cons_of_mem _ (List.mem_append_right _ h)) 6 (by decide) (List.mem_of_getElem? (i := 3) rfl) rfl dX4_readThing_13 ?_
    refine q_aload_n C hl dX4_readThing_16 rfl 0 rfl ?_
    refine q_getM (v := .int (jj P)) C w.1 (fun w h => List.mem_cons_of_mem _ (List.mem_append_right _ h)) 10 (by decide) (List.mem_of_getElem? (i := 1) rfl) (gt_v rfl e10) dX4_readThing_17 ?_
    refine q_iald (n := 60) (f := τ) C w.1 5 0 rfl rfl ⟨by omega, by omega, by omega⟩ dX4_readThing_20 ?_
    refine q_goto (tgt := 25) C dX4_readThing_21 (by decide) ?_
    rw [← el]
    refine q_putM C w (fun w h => List.mem_cons_of_mem _ (List.mem_append_right _ h)) 12 (by decide) (List.mem_of_getElem? (i := 4) rfl) rfl rfl rfl rfl dX4_readThing_25 (mP12 cI h ad _ _ _ _ _ _ _) (fun H locs w => ?_)
    refine q_aload_n C hl dX4_readThing_28 rfl 0 rfl ?_
    refine q_aload_n C hl dX4_readThing_29 rfl 0 rfl ?_
    refine q_getM (v := .int (jj 0)) C w.1 (fun w h => List.mem_cons_of_mem _ (List.mem_append_right _ h)) 11 (by decide) (List.mem_of_getElem? (i := 5) rfl) (gt_v rfl e11) dX4_readThing_30 ?_
    refine q_if_ne (tgt := 72) C dX4_readThing_33 (by decide) ⟨by omega, by omega⟩ (fun z => absurd z (by omega)) (fun _ => ?_)
    refine q_aload_n C hl dX4_readThing_36 rfl 0 rfl ?_
    refine q_getM (v := .int (jj (ltr τ le P))) C w.1 (fun w h => List.mem_cons_of_mem _ (List.mem_append_right _ h)) 12 (by decide) (List.mem_of_getElem? (i := 4) rfl) rfl dX4_readThing_37 ?_
    refine q_bipush C dX4_readThing_40 (by decide) ?_
    refine q_icmp_eq (tgt := 76) C dX4_readThing_42 (by decide) ⟨by omega, by omega⟩ ⟨by omega, by omega⟩ (fun c3 => ?_) (fun c3 => ?_)
    · have c3 := c3
      refine q_iconst C dX4_readThing_76 ?_
      refine q_putM C w (fun w h => List.mem_cons_of_mem _ (List.mem_append_right _ h)) 11 (by decide) (List.mem_of_getElem? (i := 5) rfl) rfl rfl (nar_b (by omega)) rfl dX4_readThing_77 (mP11 cI h ad _ _ _ _ _ _ _) (fun H locs w => ?_)
      refine q_aload_n C hl dX4_readThing_80 rfl 0 rfl ?_
      refine q_dup C dX4_readThing_81 rfl ?_
      refine q_getM (v := .int (jj P)) C w.1 (fun w h => List.mem_cons_of_mem _ (List.mem_append_right _ h)) 10 (by decide) (List.mem_of_getElem? (i := 1) rfl) (gt_v rfl e10) dX4_readThing_82 ?_
      refine q_aload_n C hl dX4_readThing_85 rfl 0 rfl ?_
      refine q_getM (v := .int (jj 0)) C w.1 (fun w h => List.mem_cons_of_mem _ (List.mem_append_right _ h)) 11 (by decide) (List.mem_of_getElem? (i := 5) rfl) rfl dX4_readThing_86 ?_
      refine q_if_eq (tgt := 96) C dX4_readThing_89 (by decide) ⟨by omega, by omega⟩ (fun _ => ?_) (fun z => absurd z (by omega))
      refine q_iconst C dX4_readThing_96 ?_
      refine q_iadd C dX4_readThing_97 ?_
      refine q_putM C w (fun w h => List.mem_cons_of_mem _ (List.mem_append_right _ h)) 10 (by decide) (List.mem_of_getElem? (i := 1) rfl) rfl rfl rfl rfl dX4_readThing_98 (mP10 cI h ad _ _ _ _ _ _ _) (fun H locs w => ?_)
      refine q_aload_n C hl dX4_readThing_101 rfl 0 rfl ?_
      refine q_aload_n C hl dX4_readThing_102 rfl 0 rfl ?_
      refine q_getM (v := .int (jj (ltr τ le P))) C w.1 (fun w h => List.mem_cons_of_mem _ (List.mem_append_right _ h)) 12 (by decide) (List.mem_of_getElem? (i := 4) rfl) rfl dX4_readThing_103 ?_
      refine q_bipush C dX4_readThing_106 (by decide) ?_
      refine q_icmp_ne (tgt := 115) C dX4_readThing_108 (by decide) ⟨by omega, by omega⟩ ⟨by omega, by omega⟩ (fun _ => ?_) (fun z => absurd z (by omega))
      refine q_aload_n C hl dX4_readThing_115 rfl 0 rfl ?_
      refine q_getM (v := .int (jj (ltr τ le P))) C w.1 (fun w h => List.mem_cons_of_mem _ (List.mem_append_right _ h)) 12 (by decide) (List.mem_of_getElem? (i := 4) rfl) rfl dX4_readThing_116 ?_
      refine q_bipush C dX4_readThing_119 (by decide) ?_
      refine q_icmp_ne (tgt := 134) C dX4_readThing_121 (by decide) ⟨by omega, by omega⟩ ⟨by omega, by omega⟩ (fun _ => ?_) (fun z => absurd z (by omega))
      refine q_aload_n C hl dX4_readThing_134 rfl 0 rfl ?_
      refine q_iconst C dX4_readThing_135 ?_
      refine q_bipush C dX4_readThing_136 (by decide) ?_
      refine q_runi C w fr_all (q_V (As := [.int (jj 1), .int (jj 99)]) (rest := [.ref h]) C w fr_all fX4_takesNumber gX4_readThing_X4_takesNumber rfl ⟨Nat.le_of_ble_eq_true rfl, Nat.le_of_ble_eq_true rfl⟩ (kX4_takesNumber_ok l D cI cC cS h ad σ α ς β τ (up (up (up q 12 (ltr τ le P)) 11 0) 10 (P + 1)) (P + 1) le 1 99 rfl e7 rfl (by omega) (by omega) bt (by omega) (by omega) (by omega) _) (q0 := 0) rfl rfl rfl rfl hl (Nat.le_of_ble_eq_true rfl) dX4_readThing_138 ⟨Nat.le_refl 0, Nat.le_refl 0⟩) (fun H locs w => ?_)
      have hb := nen_b (τ := τ) (le := le) (P := P + 1) (ls := 1) (ms := 99) (by omega) (by omega)
      have hv := nva_b (τ := τ) (le := le) (P := P + 1) (ls := 1) (ms := 99) (by omega) (by omega) (by omega)
      refine q_putM C w (fun w h => List.mem_cons_of_mem _ (List.mem_append_right _ h)) 13 (by decide) (List.mem_of_getElem? (i := 6) rfl) rfl rfl rfl rfl dX4_readThing_141 (mP13 cI h ad _ _ _ _ _ _ _) (fun H locs w => ?_)
      refine q_aload_n C hl dX4_readThing_144 rfl 0 rfl ?_
      refine q_aload_n C hl dX4_readThing_145 rfl 0 rfl ?_
      refine q_getM (v := .int (jj (ltr τ le P))) C w.1 (fun w h => List.mem_cons_of_mem _ (List.mem_append_right _ h)) 12 (by decide) (List.mem_of_getElem? (i := 4) rfl) rfl dX4_readThing_146 ?_
      refine q_bipush C dX4_readThing_149 (by decide) ?_
      refine q_icmp_ne (tgt := 169) C dX4_readThing_151 (by decide) ⟨by omega, by omega⟩ ⟨by omega, by omega⟩ (fun z => absurd z (by omega)) (fun _ => ?_)
      refine q_aload_n C hl dX4_readThing_154 rfl 0 rfl ?_
      refine q_bipush C dX4_readThing_155 (by decide) ?_
      refine q_bipush C dX4_readThing_157 (by decide) ?_
      refine q_runi C w fr_all (q_V (As := [.int (jj 60), .int (jj 60)]) (rest := [.ref h]) C w fr_all fX4_isNext gX4_readThing_X4_isNext rfl ⟨Nat.le_of_ble_eq_true rfl, Nat.le_of_ble_eq_true rfl⟩ (kX4_isNext l D cI cC cS h ad σ α ς β τ (up (up (up (up (up (up q 12 (ltr τ le P)) 11 0) 10 (P + 1)) 11 0) 10 (nen τ le (P + 1) 99)) 13 (nva τ le (P + 1) 99)) (nen τ le (P + 1) 99) le 0 60 60 rfl e7 rfl (by omega) (by omega) bt (by omega) (by omega) _) (q0 := 0) rfl rfl rfl rfl hl (Nat.le_of_ble_eq_true rfl) dX4_readThing_159 ⟨Nat.le_refl 0, Nat.le_refl 0⟩) (fun H locs w => ?_)
      refine q_ifz_eq (tgt := 169) C dX4_readThing_162 (by decide) (fun c8 => ?_) (fun c8 => ?_)
      · have c8 := c8
        refine q_aload_n C hl dX4_readThing_169 rfl 0 rfl ?_
        refine q_getM (v := .int (jj (ltr τ le P))) C w.1 (fun w h => List.mem_cons_of_mem _ (List.mem_append_right _ h)) 12 (by decide) (List.mem_of_getElem? (i := 4) rfl) rfl dX4_readThing_170 ?_
        refine q_bipush C dX4_readThing_173 (by decide) ?_
        refine q_icmp_ne (tgt := 193) C dX4_readThing_175 (by decide) ⟨by omega, by omega⟩ ⟨by omega, by omega⟩ (fun z => absurd z (by omega)) (fun _ => ?_)
        refine q_aload_n C hl dX4_readThing_178 rfl 0 rfl ?_
        refine q_bipush C dX4_readThing_179 (by decide) ?_
        refine q_bipush C dX4_readThing_181 (by decide) ?_
        refine q_runi C w fr_all (q_V (As := [.int (jj 62), .int (jj 62)]) (rest := [.ref h]) C w fr_all fX4_isNext gX4_readThing_X4_isNext rfl ⟨Nat.le_of_ble_eq_true rfl, Nat.le_of_ble_eq_true rfl⟩ (kX4_isNext l D cI cC cS h ad σ α ς β τ (up (up (up (up (up (up q 12 (ltr τ le P)) 11 0) 10 (P + 1)) 11 0) 10 (nen τ le (P + 1) 99)) 13 (nva τ le (P + 1) 99)) (nen τ le (P + 1) 99) le 0 62 62 rfl e7 rfl (by omega) (by omega) bt (by omega) (by omega) _) (q0 := 0) rfl rfl rfl rfl hl (Nat.le_of_ble_eq_true rfl) dX4_readThing_183 ⟨Nat.le_refl 0, Nat.le_refl 0⟩) (fun H locs w => ?_)
        refine q_ifz_eq (tgt := 193) C dX4_readThing_186 (by decide) (fun c10 => ?_) (fun c10 => ?_)
        · have c10 := c10
          refine q_iconst C dX4_readThing_193 ?_
          refine q_putM C w (fun w h => List.mem_cons_of_mem _ (List.mem_append_right _ h)) 14 (by decide) (List.mem_of_getElem? (i := 7) rfl) rfl rfl rfl rfl dX4_readThing_194 (mP14 cI h ad _ _ _ _ _ _ _) (fun H locs w => ?_)
          refine q_aload_n C hl dX4_readThing_197 rfl 0 rfl ?_
          refine q_dup C dX4_readThing_198 rfl ?_
          refine q_getM (v := .int (jj (nen τ le (P + 1) 99))) C w.1 (fun w h => List.mem_cons_of_mem _ (List.mem_append_right _ h)) 10 (by decide) (List.mem_of_getElem? (i := 1) rfl) rfl dX4_readThing_199 ?_
          refine q_aload_n C hl dX4_readThing_202 rfl 0 rfl ?_
          refine q_getM (v := .int (jj 0)) C w.1 (fun w h => List.mem_cons_of_mem _ (List.mem_append_right _ h)) 14 (by decide) (List.mem_of_getElem? (i := 7) rfl) rfl dX4_readThing_203 ?_
          refine q_if_le (tgt := 213) C dX4_readThing_206 (by decide) ⟨by omega, by omega⟩ (fun _ => ?_) (fun z => absurd z (by omega))
          refine q_iconst C dX4_readThing_213 ?_
          refine q_iadd C dX4_readThing_214 ?_
          refine q_putM C w (fun w h => List.mem_cons_of_mem _ (List.mem_append_right _ h)) 10 (by decide) (List.mem_of_getElem? (i := 1) rfl) rfl rfl rfl rfl dX4_readThing_215 (mP10 cI h ad _ _ _ _ _ _ _) (fun H locs w => ?_)
          exact q_vret C w dX4_readThing_218 (by have v1 : tmi τ le P = nen τ le (P + 1) 99 := (by unfold tmi; (repeat' split) <;> omega); have v2 : tnu τ le P = (nva τ le (P + 1) 99) := (by unfold tnu; (repeat' split) <;> omega); have v3 : tsi τ le P = 0 := (by unfold tsi; rw [v1]; (repeat' split) <;> omega); have v4 : ten τ le P = (nen τ le (P + 1) 99) + 0 := (by unfold ten; rw [v3, v1]; (repeat' split) <;> omega); unfold rq; rw [v2, v3, v4]; exact congrArg (fun z => mW cI h ad σ α ς β τ z) (upr2 _ _ _ _ _ _ _ _ _))
        · have c10 := c10
          refine q_iconst C dX4_readThing_189 ?_
          refine q_goto (tgt := 194) C dX4_readThing_190 (by decide) ?_
          refine q_putM C w (fun w h => List.mem_cons_of_mem _ (List.mem_append_right _ h)) 14 (by decide) (List.mem_of_getElem? (i := 7) rfl) rfl rfl rfl rfl dX4_readThing_194 (mP14 cI h ad _ _ _ _ _ _ _) (fun H locs w => ?_)
          refine q_aload_n C hl dX4_readThing_197 rfl 0 rfl ?_
          refine q_dup C dX4_readThing_198 rfl ?_
          refine q_getM (v := .int (jj (nen τ le (P + 1) 99))) C w.1 (fun w h => List.mem_cons_of_mem _ (List.mem_append_right _ h)) 10 (by decide) (List.mem_of_getElem? (i := 1) rfl) rfl dX4_readThing_199 ?_
          refine q_aload_n C hl dX4_readThing_202 rfl 0 rfl ?_
          refine q_getM (v := .int (jj 2)) C w.1 (fun w h => List.mem_cons_of_mem _ (List.mem_append_right _ h)) 14 (by decide) (List.mem_of_getElem? (i := 7) rfl) rfl dX4_readThing_203 ?_
          refine q_if_le (tgt := 213) C dX4_readThing_206 (by decide) ⟨by omega, by omega⟩ (fun z => absurd z (by omega)) (fun _ => ?_)
          refine q_iconst C dX4_readThing_209 ?_
          refine q_goto (tgt := 214) C dX4_readThing_210 (by decide) ?_
          refine q_iadd C dX4_readThing_214 ?_
          refine q_putM C w (fun w h => List.mem_cons_of_mem _ (List.mem_append_right _ h)) 10 (by decide) (List.mem_of_getElem? (i := 1) rfl) rfl rfl rfl rfl dX4_readThing_215 (mP10 cI h ad _ _ _ _ _ _ _) (fun H locs w => ?_)
          exact q_vret C w dX4_readThing_218 (by have v1 : tmi τ le P = nen τ le (P + 1) 99 := (by unfold tmi; (repeat' split) <;> omega); have v2 : tnu τ le P = (nva τ le (P + 1) 99) := (by unfold tnu; (repeat' split) <;> omega); have v3 : tsi τ le P = 2 := (by unfold tsi; rw [v1]; (repeat' split) <;> omega); have v4 : ten τ le P = (nen τ le (P + 1) 99) + 1 := (by unfold ten; rw [v3, v1]; (repeat' split) <;> omega); unfold rq; rw [v2, v3, v4]; exact congrArg (fun z => mW cI h ad σ α ς β τ z) (upr2 _ _ _ _ _ _ _ _ _))
      · have c8 := c8
        refine q_iconst C dX4_readThing_165 ?_
        refine q_goto (tgt := 194) C dX4_readThing_166 (by decide) ?_
        refine q_putM C w (fun w h => List.mem_cons_of_mem _ (List.mem_append_right _ h)) 14 (by decide) (List.mem_of_getElem? (i := 7) rfl) rfl rfl rfl rfl dX4_readThing_194 (mP14 cI h ad _ _ _ _ _ _ _) (fun H locs w => ?_)
        refine q_aload_n C hl dX4_readThing_197 rfl 0 rfl ?_
        refine q_dup C dX4_readThing_198 rfl ?_
        refine q_getM (v := .int (jj (nen τ le (P + 1) 99))) C w.1 (fun w h => List.mem_cons_of_mem _ (List.mem_append_right _ h)) 10 (by decide) (List.mem_of_getElem? (i := 1) rfl) rfl dX4_readThing_199 ?_
        refine q_aload_n C hl dX4_readThing_202 rfl 0 rfl ?_
        refine q_getM (v := .int (jj 1)) C w.1 (fun w h => List.mem_cons_of_mem _ (List.mem_append_right _ h)) 14 (by decide) (List.mem_of_getElem? (i := 7) rfl) rfl dX4_readThing_203 ?_
        refine q_if_le (tgt := 213) C dX4_readThing_206 (by decide) ⟨by omega, by omega⟩ (fun z => absurd z (by omega)) (fun _ => ?_)
        refine q_iconst C dX4_readThing_209 ?_
        refine q_goto (tgt := 214) C dX4_readThing_210 (by decide) ?_
        refine q_iadd C dX4_readThing_214 ?_
        refine q_putM C w (fun w h => List.mem_cons_of_mem _ (List.mem_append_right _ h)) 10 (by decide) (List.mem_of_getElem? (i := 1) rfl) rfl rfl rfl rfl dX4_readThing_215 (mP10 cI h ad _ _ _ _ _ _ _) (fun H locs w => ?_)
        exact q_vret C w dX4_readThing_218 (by have v1 : tmi τ le P = nen τ le (P + 1) 99 := (by unfold tmi; (repeat' split) <;> omega); have v2 : tnu τ le P = (nva τ le (P + 1) 99) := (by unfold tnu; (repeat' split) <;> omega); have v3 : tsi τ le P = 1 := (by unfold tsi; rw [v1]; (repeat' split) <;> omega); have v4 : ten τ le P = (nen τ le (P + 1) 99) + 1 := (by unfold ten; rw [v3, v1]; (repeat' split) <;> omega); unfold rq; rw [v2, v3, v4]; exact congrArg (fun z => mW cI h ad σ α ς β τ z) (upr2 _ _ _ _ _ _ _ _ _))
    · have c3 := c3
      refine q_aload_n C hl dX4_readThing_45 rfl 0 rfl ?_
      refine q_getM (v := .int (jj (ltr τ le P))) C w.1 (fun w h => List.mem_cons_of_mem _ (List.mem_append_right _ h)) 12 (by decide) (List.mem_of_getElem? (i := 4) rfl) rfl dX4_readThing_46 ?_
      refine q_bipush C dX4_readThing_49 (by decide) ?_
      refine q_icmp_eq (tgt := 76) C dX4_readThing_51 (by decide) ⟨by omega, by omega⟩ ⟨by omega, by omega⟩ (fun c14 => ?_) (fun c14 => ?_)
      · have c14 := c14
        refine q_iconst C dX4_readThing_76 ?_
        refine q_putM C w (fun w h => List.mem_cons_of_mem _ (List.mem_append_right _ h)) 11 (by decide) (List.mem_of_getElem? (i := 5) rfl) rfl rfl (nar_b (by omega)) rfl dX4_readThing_77 (mP11 cI h ad _ _ _ _ _ _ _) (fun H locs w => ?_)
        refine q_aload_n C hl dX4_readThing_80 rfl 0 rfl ?_
        refine q_dup C dX4_readThing_81 rfl ?_
        refine q_getM (v := .int (jj P)) C w.1 (fun w h => List.mem_cons_of_mem _ (List.mem_append_right _ h)) 10 (by decide) (List.mem_of_getElem? (i := 1) rfl) (gt_v rfl e10) dX4_readThing_82 ?_
        refine q_aload_n C hl dX4_readThing_85 rfl 0 rfl ?_
        refine q_getM (v := .int (jj 0)) C w.1 (fun w h => List.mem_cons_of_mem _ (List.mem_append_right _ h)) 11 (by decide) (List.mem_of_getElem? (i := 5) rfl) rfl dX4_readThing_86 ?_
        refine q_if_eq (tgt := 96) C dX4_readThing_89 (by decide) ⟨by omega, by omega⟩ (fun _ => ?_) (fun z => absurd z (by omega))
        refine q_iconst C dX4_readThing_96 ?_
        refine q_iadd C dX4_readThing_97 ?_
        refine q_putM C w (fun w h => List.mem_cons_of_mem _ (List.mem_append_right _ h)) 10 (by decide) (List.mem_of_getElem? (i := 1) rfl) rfl rfl rfl rfl dX4_readThing_98 (mP10 cI h ad _ _ _ _ _ _ _) (fun H locs w => ?_)
        refine q_aload_n C hl dX4_readThing_101 rfl 0 rfl ?_
        refine q_aload_n C hl dX4_readThing_102 rfl 0 rfl ?_
        refine q_getM (v := .int (jj (ltr τ le P))) C w.1 (fun w h => List.mem_cons_of_mem _ (List.mem_append_right _ h)) 12 (by decide) (List.mem_of_getElem? (i := 4) rfl) rfl dX4_readThing_103 ?_
        refine q_bipush C dX4_readThing_106 (by decide) ?_
        refine q_icmp_ne (tgt := 115) C dX4_readThing_108 (by decide) ⟨by omega, by omega⟩ ⟨by omega, by omega⟩ (fun _ => ?_) (fun z => absurd z (by omega))
        refine q_aload_n C hl dX4_readThing_115 rfl 0 rfl ?_
        refine q_getM (v := .int (jj (ltr τ le P))) C w.1 (fun w h => List.mem_cons_of_mem _ (List.mem_append_right _ h)) 12 (by decide) (List.mem_of_getElem? (i := 4) rfl) rfl dX4_readThing_116 ?_
        refine q_bipush C dX4_readThing_119 (by decide) ?_
        refine q_icmp_ne (tgt := 134) C dX4_readThing_121 (by decide) ⟨by omega, by omega⟩ ⟨by omega, by omega⟩ (fun _ => ?_) (fun z => absurd z (by omega))
        refine q_aload_n C hl dX4_readThing_134 rfl 0 rfl ?_
        refine q_iconst C dX4_readThing_135 ?_
        refine q_bipush C dX4_readThing_136 (by decide) ?_
        refine q_runi C w fr_all (q_V (As := [.int (jj 1), .int (jj 99)]) (rest := [.ref h]) C w fr_all fX4_takesNumber gX4_readThing_X4_takesNumber rfl ⟨Nat.le_of_ble_eq_true rfl, Nat.le_of_ble_eq_true rfl⟩ (kX4_takesNumber_ok l D cI cC cS h ad σ α ς β τ (up (up (up q 12 (ltr τ le P)) 11 0) 10 (P + 1)) (P + 1) le 1 99 rfl e7 rfl (by omega) (by omega) bt (by omega) (by omega) (by omega) _) (q0 := 0) rfl rfl rfl rfl hl (Nat.le_of_ble_eq_true rfl) dX4_readThing_138 ⟨Nat.le_refl 0, Nat.le_refl 0⟩) (fun H locs w => ?_)
        have hb := nen_b (τ := τ) (le := le) (P := P + 1) (ls := 1) (ms := 99) (by omega) (by omega)
        have hv := nva_b (τ := τ) (le := le) (P := P + 1) (ls := 1) (ms := 99) (by omega) (by omega) (by omega)
        refine q_putM C w (fun w h => List.mem_cons_of_mem _ (List.mem_append_right _ h)) 13 (by decide) (List.mem_of_getElem? (i := 6) rfl) rfl rfl rfl rfl dX4_readThing_141 (mP13 cI h ad _ _ _ _ _ _ _) (fun H locs w => ?_)
        refine q_aload_n C hl dX4_readThing_144 rfl 0 rfl ?_
        refine q_aload_n C hl dX4_readThing_145 rfl 0 rfl ?_
        refine q_getM (v := .int (jj (ltr τ le P))) C w.1 (fun w h => List.mem_cons_of_mem _ (List.mem_append_right _ h)) 12 (by decide) (List.mem_of_getElem? (i := 4) rfl) rfl dX4_readThing_146 ?_
        refine q_bipush C dX4_readThing_149 (by decide) ?_
        refine q_icmp_ne (tgt := 169) C dX4_readThing_151 (by decide) ⟨by omega, by omega⟩ ⟨by omega, by omega⟩ (fun _ => ?_) (fun z => absurd z (by omega))
        refine q_aload_n C hl dX4_readThing_169 rfl 0 rfl ?_
        refine q_getM (v := .int (jj (ltr τ le P))) C w.1 (fun w h => List.mem_cons_of_mem _ (List.mem_append_right _ h)) 12 (by decide) (List.mem_of_getElem? (i := 4) rfl) rfl dX4_readThing_170 ?_
        refine q_bipush C dX4_readThing_173 (by decide) ?_
        refine q_icmp_ne (tgt := 193) C dX4_readThing_175 (by decide) ⟨by omega, by omega⟩ ⟨by omega, by omega⟩ (fun _ => ?_) (fun z => absurd z (by omega))
        refine q_iconst C dX4_readThing_193 ?_
        refine q_putM C w (fun w h => List.mem_cons_of_mem _ (List.mem_append_right _ h)) 14 (by decide) (List.mem_of_getElem? (i := 7) rfl) rfl rfl rfl rfl dX4_readThing_194 (mP14 cI h ad _ _ _ _ _ _ _) (fun H locs w => ?_)
        refine q_aload_n C hl dX4_readThing_197 rfl 0 rfl ?_
        refine q_dup C dX4_readThing_198 rfl ?_
        refine q_getM (v := .int (jj (nen τ le (P + 1) 99))) C w.1 (fun w h => List.mem_cons_of_mem _ (List.mem_append_right _ h)) 10 (by decide) (List.mem_of_getElem? (i := 1) rfl) rfl dX4_readThing_199 ?_
        refine q_aload_n C hl dX4_readThing_202 rfl 0 rfl ?_
        refine q_getM (v := .int (jj 0)) C w.1 (fun w h => List.mem_cons_of_mem _ (List.mem_append_right _ h)) 14 (by decide) (List.mem_of_getElem? (i := 7) rfl) rfl dX4_readThing_203 ?_
        refine q_if_le (tgt := 213) C dX4_readThing_206 (by decide) ⟨by omega, by omega⟩ (fun _ => ?_) (fun z => absurd z (by omega))
        refine q_iconst C dX4_readThing_213 ?_
        refine q_iadd C dX4_readThing_214 ?_
        refine q_putM C w (fun w h => List.mem_cons_of_mem _ (List.mem_append_right _ h)) 10 (by decide) (List.mem_of_getElem? (i := 1) rfl) rfl rfl rfl rfl dX4_readThing_215 (mP10 cI h ad _ _ _ _ _ _ _) (fun H locs w => ?_)
        exact q_vret C w dX4_readThing_218 (by have v1 : tmi τ le P = nen τ le (P + 1) 99 := (by unfold tmi; (repeat' split) <;> omega); have v2 : tnu τ le P = (nva τ le (P + 1) 99) := (by unfold tnu; (repeat' split) <;> omega); have v3 : tsi τ le P = 0 := (by unfold tsi; rw [v1]; (repeat' split) <;> omega); have v4 : ten τ le P = (nen τ le (P + 1) 99) + 0 := (by unfold ten; rw [v3, v1]; (repeat' split) <;> omega); unfold rq; rw [v2, v3, v4]; exact congrArg (fun z => mW cI h ad σ α ς β τ z) (upr2 _ _ _ _ _ _ _ _ _))
      · have c14 := c14
        refine q_aload_n C hl dX4_readThing_54 rfl 0 rfl ?_
        refine q_getM (v := .int (jj (ltr τ le P))) C w.1 (fun w h => List.mem_cons_of_mem _ (List.mem_append_right _ h)) 12 (by decide) (List.mem_of_getElem? (i := 4) rfl) rfl dX4_readThing_55 ?_
        refine q_bipush C dX4_readThing_58 (by decide) ?_
        refine q_icmp_eq (tgt := 76) C dX4_readThing_60 (by decide) ⟨by omega, by omega⟩ ⟨by omega, by omega⟩ (fun c21 => ?_) (fun c21 => ?_)
        · have c21 := c21
          refine q_iconst C dX4_readThing_76 ?_
          refine q_putM C w (fun w h => List.mem_cons_of_mem _ (List.mem_append_right _ h)) 11 (by decide) (List.mem_of_getElem? (i := 5) rfl) rfl rfl (nar_b (by omega)) rfl dX4_readThing_77 (mP11 cI h ad _ _ _ _ _ _ _) (fun H locs w => ?_)
          refine q_aload_n C hl dX4_readThing_80 rfl 0 rfl ?_
          refine q_dup C dX4_readThing_81 rfl ?_
          refine q_getM (v := .int (jj P)) C w.1 (fun w h => List.mem_cons_of_mem _ (List.mem_append_right _ h)) 10 (by decide) (List.mem_of_getElem? (i := 1) rfl) (gt_v rfl e10) dX4_readThing_82 ?_
          refine q_aload_n C hl dX4_readThing_85 rfl 0 rfl ?_
          refine q_getM (v := .int (jj 0)) C w.1 (fun w h => List.mem_cons_of_mem _ (List.mem_append_right _ h)) 11 (by decide) (List.mem_of_getElem? (i := 5) rfl) rfl dX4_readThing_86 ?_
          refine q_if_eq (tgt := 96) C dX4_readThing_89 (by decide) ⟨by omega, by omega⟩ (fun _ => ?_) (fun z => absurd z (by omega))
          refine q_iconst C dX4_readThing_96 ?_
          refine q_iadd C dX4_readThing_97 ?_
          refine q_putM C w (fun w h => List.mem_cons_of_mem _ (List.mem_append_right _ h)) 10 (by decide) (List.mem_of_getElem? (i := 1) rfl) rfl rfl rfl rfl dX4_readThing_98 (mP10 cI h ad _ _ _ _ _ _ _) (fun H locs w => ?_)
          refine q_aload_n C hl dX4_readThing_101 rfl 0 rfl ?_
          refine q_aload_n C hl dX4_readThing_102 rfl 0 rfl ?_
          refine q_getM (v := .int (jj (ltr τ le P))) C w.1 (fun w h => List.mem_cons_of_mem _ (List.mem_append_right _ h)) 12 (by decide) (List.mem_of_getElem? (i := 4) rfl) rfl dX4_readThing_103 ?_
          refine q_bipush C dX4_readThing_106 (by decide) ?_
          refine q_icmp_ne (tgt := 115) C dX4_readThing_108 (by decide) ⟨by omega, by omega⟩ ⟨by omega, by omega⟩ (fun z => absurd z (by omega)) (fun _ => ?_)
          refine q_iconst C dX4_readThing_111 ?_
          refine q_goto (tgt := 141) C dX4_readThing_112 (by decide) ?_
          refine q_putM C w (fun w h => List.mem_cons_of_mem _ (List.mem_append_right _ h)) 13 (by decide) (List.mem_of_getElem? (i := 6) rfl) rfl rfl rfl rfl dX4_readThing_141 (mP13 cI h ad _ _ _ _ _ _ _) (fun H locs w => ?_)
          refine q_aload_n C hl dX4_readThing_144 rfl 0 rfl ?_
          refine q_aload_n C hl dX4_readThing_145 rfl 0 rfl ?_
          refine q_getM (v := .int (jj (ltr τ le P))) C w.1 (fun w h => List.mem_cons_of_mem _ (List.mem_append_right _ h)) 12 (by decide) (List.mem_of_getElem? (i := 4) rfl) rfl dX4_readThing_146 ?_
          refine q_bipush C dX4_readThing_149 (by decide) ?_
          refine q_icmp_ne (tgt := 169) C dX4_readThing_151 (by decide) ⟨by omega, by omega⟩ ⟨by omega, by omega⟩ (fun _ => ?_) (fun z => absurd z (by omega))
          refine q_aload_n C hl dX4_readThing_169 rfl 0 rfl ?_
          refine q_getM (v := .int (jj (ltr τ le P))) C w.1 (fun w h => List.mem_cons_of_mem _ (List.mem_append_right _ h)) 12 (by decide) (List.mem_of_getElem? (i := 4) rfl) rfl dX4_readThing_170 ?_
          refine q_bipush C dX4_readThing_173 (by decide) ?_
          refine q_icmp_ne (tgt := 193) C dX4_readThing_175 (by decide) ⟨by omega, by omega⟩ ⟨by omega, by omega⟩ (fun _ => ?_) (fun z => absurd z (by omega))
          refine q_iconst C dX4_readThing_193 ?_
          refine q_putM C w (fun w h => List.mem_cons_of_mem _ (List.mem_append_right _ h)) 14 (by decide) (List.mem_of_getElem? (i := 7) rfl) rfl rfl rfl rfl dX4_readThing_194 (mP14 cI h ad _ _ _ _ _ _ _) (fun H locs w => ?_)
          refine q_aload_n C hl dX4_readThing_197 rfl 0 rfl ?_
          refine q_dup C dX4_readThing_198 rfl ?_
          refine q_getM (v := .int (jj (P + 1))) C w.1 (fun w h => List.mem_cons_of_mem _ (List.mem_append_right _ h)) 10 (by decide) (List.mem_of_getElem? (i := 1) rfl) rfl dX4_readThing_199 ?_
          refine q_aload_n C hl dX4_readThing_202 rfl 0 rfl ?_
          refine q_getM (v := .int (jj 0)) C w.1 (fun w h => List.mem_cons_of_mem _ (List.mem_append_right _ h)) 14 (by decide) (List.mem_of_getElem? (i := 7) rfl) rfl dX4_readThing_203 ?_
          refine q_if_le (tgt := 213) C dX4_readThing_206 (by decide) ⟨by omega, by omega⟩ (fun _ => ?_) (fun z => absurd z (by omega))
          refine q_iconst C dX4_readThing_213 ?_
          refine q_iadd C dX4_readThing_214 ?_
          refine q_putM C w (fun w h => List.mem_cons_of_mem _ (List.mem_append_right _ h)) 10 (by decide) (List.mem_of_getElem? (i := 1) rfl) rfl rfl rfl rfl dX4_readThing_215 (mP10 cI h ad _ _ _ _ _ _ _) (fun H locs w => ?_)
          exact q_vret C w dX4_readThing_218 (by have v1 : tmi τ le P = P + 1 := (by unfold tmi; (repeat' split) <;> omega); have v2 : tnu τ le P = 0 := (by unfold tnu; (repeat' split) <;> omega); have v3 : tsi τ le P = 0 := (by unfold tsi; rw [v1]; (repeat' split) <;> omega); have v4 : ten τ le P = (P + 1) + 0 := (by unfold ten; rw [v3, v1]; (repeat' split) <;> omega); unfold rq; rw [v2, v3, v4]; exact congrArg (fun z => mW cI h ad σ α ς β τ z) (upr1 _ _ _ _ _ _ _))
        · have c21 := c21
          refine q_aload_n C hl dX4_readThing_63 rfl 0 rfl ?_
          refine q_getM (v := .int (jj (ltr τ le P))) C w.1 (fun w h => List.mem_cons_of_mem _ (List.mem_append_right _ h)) 12 (by decide) (List.mem_of_getElem? (i := 4) rfl) rfl dX4_readThing_64 ?_
          refine q_bipush C dX4_readThing_67 (by decide) ?_
          refine q_icmp_eq (tgt := 76) C dX4_readThing_69 (by decide) ⟨by omega, by omega⟩ ⟨by omega, by omega⟩ (fun c27 => ?_) (fun c27 => ?_)
          · have c27 := c27
            refine q_iconst C dX4_readThing_76 ?_
            refine q_putM C w (fun w h => List.mem_cons_of_mem _ (List.mem_append_right _ h)) 11 (by decide) (List.mem_of_getElem? (i := 5) rfl) rfl rfl (nar_b (by omega)) rfl dX4_readThing_77 (mP11 cI h ad _ _ _ _ _ _ _) (fun H locs w => ?_)
            refine q_aload_n C hl dX4_readThing_80 rfl 0 rfl ?_
            refine q_dup C dX4_readThing_81 rfl ?_
            refine q_getM (v := .int (jj P)) C w.1 (fun w h => List.mem_cons_of_mem _ (List.mem_append_right _ h)) 10 (by decide) (List.mem_of_getElem? (i := 1) rfl) (gt_v rfl e10) dX4_readThing_82 ?_
            refine q_aload_n C hl dX4_readThing_85 rfl 0 rfl ?_
            refine q_getM (v := .int (jj 0)) C w.1 (fun w h => List.mem_cons_of_mem _ (List.mem_append_right _ h)) 11 (by decide) (List.mem_of_getElem? (i := 5) rfl) rfl dX4_readThing_86 ?_
            refine q_if_eq (tgt := 96) C dX4_readThing_89 (by decide) ⟨by omega, by omega⟩ (fun _ => ?_) (fun z => absurd z (by omega))
            refine q_iconst C dX4_readThing_96 ?_
            refine q_iadd C dX4_readThing_97 ?_
            refine q_putM C w (fun w h => List.mem_cons_of_mem _ (List.mem_append_right _ h)) 10 (by decide) (List.mem_of_getElem? (i := 1) rfl) rfl rfl rfl rfl dX4_readThing_98 (mP10 cI h ad _ _ _ _ _ _ _) (fun H locs w => ?_)
            refine q_aload_n C hl dX4_readThing_101 rfl 0 rfl ?_
            refine q_aload_n C hl dX4_readThing_102 rfl 0 rfl ?_
            refine q_getM (v := .int (jj (ltr τ le P))) C w.1 (fun w h => List.mem_cons_of_mem _ (List.mem_append_right _ h)) 12 (by decide) (List.mem_of_getElem? (i := 4) rfl) rfl dX4_readThing_103 ?_
            refine q_bipush C dX4_readThing_106 (by decide) ?_
            refine q_icmp_ne (tgt := 115) C dX4_readThing_108 (by decide) ⟨by omega, by omega⟩ ⟨by omega, by omega⟩ (fun _ => ?_) (fun z => absurd z (by omega))
            refine q_aload_n C hl dX4_readThing_115 rfl 0 rfl ?_
            refine q_getM (v := .int (jj (ltr τ le P))) C w.1 (fun w h => List.mem_cons_of_mem _ (List.mem_append_right _ h)) 12 (by decide) (List.mem_of_getElem? (i := 4) rfl) rfl dX4_readThing_116 ?_
            refine q_bipush C dX4_readThing_119 (by decide) ?_
            refine q_icmp_ne (tgt := 134) C dX4_readThing_121 (by decide) ⟨by omega, by omega⟩ ⟨by omega, by omega⟩ (fun z => absurd z (by omega)) (fun _ => ?_)
            refine q_aload_n C hl dX4_readThing_124 rfl 0 rfl ?_
            refine q_iconst C dX4_readThing_125 ?_
            refine q_bipush C dX4_readThing_126 (by decide) ?_
            refine q_runi C w fr_all (q_V (As := [.int (jj 0), .int (jj 15)]) (rest := [.ref h]) C w fr_all fX4_takesNumber gX4_readThing_X4_takesNumber rfl ⟨Nat.le_of_ble_eq_true rfl, Nat.le_of_ble_eq_true rfl⟩ (kX4_takesNumber_ok l D cI cC cS h ad σ α ς β τ (up (up (up q 12 (ltr τ le P)) 11 0) 10 (P + 1)) (P + 1) le 0 15 rfl e7 rfl (by omega) (by omega) bt (by omega) (by omega) (by omega) _) (q0 := 0) rfl rfl rfl rfl hl (Nat.le_of_ble_eq_true rfl) dX4_readThing_128 ⟨Nat.le_refl 0, Nat.le_refl 0⟩) (fun H locs w => ?_)
            have hb := nen_b (τ := τ) (le := le) (P := P + 1) (ls := 0) (ms := 15) (by omega) (by omega)
            have hv := nva_b (τ := τ) (le := le) (P := P + 1) (ls := 0) (ms := 15) (by omega) (by omega) (by omega)
            refine q_goto (tgt := 141) C dX4_readThing_131 (by decide) ?_
            refine q_putM C w (fun w h => List.mem_cons_of_mem _ (List.mem_append_right _ h)) 13 (by decide) (List.mem_of_getElem? (i := 6) rfl) rfl rfl rfl rfl dX4_readThing_141 (mP13 cI h ad _ _ _ _ _ _ _) (fun H locs w => ?_)
            refine q_aload_n C hl dX4_readThing_144 rfl 0 rfl ?_
            refine q_aload_n C hl dX4_readThing_145 rfl 0 rfl ?_
            refine q_getM (v := .int (jj (ltr τ le P))) C w.1 (fun w h => List.mem_cons_of_mem _ (List.mem_append_right _ h)) 12 (by decide) (List.mem_of_getElem? (i := 4) rfl) rfl dX4_readThing_146 ?_
            refine q_bipush C dX4_readThing_149 (by decide) ?_
            refine q_icmp_ne (tgt := 169) C dX4_readThing_151 (by decide) ⟨by omega, by omega⟩ ⟨by omega, by omega⟩ (fun _ => ?_) (fun z => absurd z (by omega))
            refine q_aload_n C hl dX4_readThing_169 rfl 0 rfl ?_
            refine q_getM (v := .int (jj (ltr τ le P))) C w.1 (fun w h => List.mem_cons_of_mem _ (List.mem_append_right _ h)) 12 (by decide) (List.mem_of_getElem? (i := 4) rfl) rfl dX4_readThing_170 ?_
            refine q_bipush C dX4_readThing_173 (by decide) ?_
            refine q_icmp_ne (tgt := 193) C dX4_readThing_175 (by decide) ⟨by omega, by omega⟩ ⟨by omega, by omega⟩ (fun _ => ?_) (fun z => absurd z (by omega))
            refine q_iconst C dX4_readThing_193 ?_
            refine q_putM C w (fun w h => List.mem_cons_of_mem _ (List.mem_append_right _ h)) 14 (by decide) (List.mem_of_getElem? (i := 7) rfl) rfl rfl rfl rfl dX4_readThing_194 (mP14 cI h ad _ _ _ _ _ _ _) (fun H locs w => ?_)
            refine q_aload_n C hl dX4_readThing_197 rfl 0 rfl ?_
            refine q_dup C dX4_readThing_198 rfl ?_
            refine q_getM (v := .int (jj (nen τ le (P + 1) 15))) C w.1 (fun w h => List.mem_cons_of_mem _ (List.mem_append_right _ h)) 10 (by decide) (List.mem_of_getElem? (i := 1) rfl) rfl dX4_readThing_199 ?_
            refine q_aload_n C hl dX4_readThing_202 rfl 0 rfl ?_
            refine q_getM (v := .int (jj 0)) C w.1 (fun w h => List.mem_cons_of_mem _ (List.mem_append_right _ h)) 14 (by decide) (List.mem_of_getElem? (i := 7) rfl) rfl dX4_readThing_203 ?_
            refine q_if_le (tgt := 213) C dX4_readThing_206 (by decide) ⟨by omega, by omega⟩ (fun _ => ?_) (fun z => absurd z (by omega))
            refine q_iconst C dX4_readThing_213 ?_
            refine q_iadd C dX4_readThing_214 ?_
            refine q_putM C w (fun w h => List.mem_cons_of_mem _ (List.mem_append_right _ h)) 10 (by decide) (List.mem_of_getElem? (i := 1) rfl) rfl rfl rfl rfl dX4_readThing_215 (mP10 cI h ad _ _ _ _ _ _ _) (fun H locs w => ?_)
            exact q_vret C w dX4_readThing_218 (by have v1 : tmi τ le P = nen τ le (P + 1) 15 := (by unfold tmi; (repeat' split) <;> omega); have v2 : tnu τ le P = (nva τ le (P + 1) 15) := (by unfold tnu; (repeat' split) <;> omega); have v3 : tsi τ le P = 0 := (by unfold tsi; rw [v1]; (repeat' split) <;> omega); have v4 : ten τ le P = (nen τ le (P + 1) 15) + 0 := (by unfold ten; rw [v3, v1]; (repeat' split) <;> omega); unfold rq; rw [v2, v3, v4]; exact congrArg (fun z => mW cI h ad σ α ς β τ z) (upr2 _ _ _ _ _ _ _ _ _))
          · exact absurd c27 (by omega)

set_option maxHeartbeats 4000000 in
set_option maxRecDepth 10000 in
theorem kX4_readThing_bad (l : Launch) (D : va_G) (cI cC cS : ClassId) (h : Nat) (ad : Nat → Nat) (σ α ς β τ q : Int → Int) (P le : Int)  (e10 : q 10 = P) (e7 : q 7 = le) (e11 : q 11 = 0) (bpP : 0 ≤ P ∧ P ≤ 100) (ble : 0 ≤ le ∧ le ≤ 60) (bt : ∀ x : Int, 0 ≤ x → x < le → 0 ≤ τ x ∧ τ x ≤ 65535) (htok : ¬ tok τ le P) : Kv l yX4_readThing wsX4_readThing rX4_readThing D (tz cI cC cS) [.ref h] (mW cI h ad σ α ς β τ q) (mW cI h ad σ α ς β τ (bq τ q le P)) := by
  have hl := ltr_b (le := le) (P := P) bpP.1 bt
  refine q_entry (cc := cX4_readThing) (nL := 1) (ret := none) (by decide) ⟨_, rfl⟩ (Nat.le_of_ble_eq_true rfl) ?_
  intro A pr en s m args below meth c C hin w ls hl
  have w := w
  have hl : lv_has ls 1 [(0, .ref h)] := hl
  refine q_aload_n C hl dX4_readThing_0 rfl 0 rfl ?_
  refine q_aload_n C hl dX4_readThing_1 rfl 0 rfl ?_
  refine q_getM (v := .int (jj P)) C w.1 (fun w h => List.mem_cons_of_mem _ (List.mem_append_right _ h)) 10 (by decide) (List.mem_of_getElem? (i := 1) rfl) (gt_v rfl e10) dX4_readThing_2 ?_
  refine q_aload_n C hl dX4_readThing_5 rfl 0 rfl ?_
  refine q_getM (v := .int (jj le)) C w.1 (fun w h => List.mem_cons_of_mem _ (List.mem_append_right _ h)) 7 (by decide) (List.mem_of_getElem? (i := 2) rfl) (gt_v rfl e7) dX4_readThing_6 ?_
  refine q_icmp_ge (tgt := 24) C dX4_readThing_9 (by decide) ⟨by omega, by omega⟩ ⟨by omega, by omega⟩ (fun c1 => ?_) (fun c1 => ?_)
  · have c1 := c1
    have el := ltr_out (τ := τ) (le := le) (P := P) (by omega)
    refine q_iconst C dX4_readThing_24 ?_
    refine q_putM C w (fun w h => List.mem_cons_of_mem _ (List.mem_append_right _ h)) 12 (by decide) (List.mem_of_getElem? (i := 4) rfl) rfl rfl rfl rfl dX4_readThing_25 (mP12 cI h ad _ _ _ _ _ _ _) (fun H locs w => ?_)
    refine q_aload_n C hl dX4_readThing_28 rfl 0 rfl ?_
    refine q_aload_n C hl dX4_readThing_29 rfl 0 rfl ?_
    refine q_getM (v := .int (jj 0)) C w.1 (fun w h => List.mem_cons_of_mem _ (List.mem_append_right _ h)) 11 (by decide) (List.mem_of_getElem? (i := 5) rfl) (gt_v rfl e11) dX4_readThing_30 ?_
    refine q_if_ne (tgt := 72) C dX4_readThing_33 (by decide) ⟨by omega, by omega⟩ (fun z => absurd z (by omega)) (fun _ => ?_)
    refine q_aload_n C hl dX4_readThing_36 rfl 0 rfl ?_
    refine q_getM (v := .int (jj 0)) C w.1 (fun w h => List.mem_cons_of_mem _ (List.mem_append_right _ h)) 12 (by decide) (List.mem_of_getElem? (i := 4) rfl) rfl dX4_readThing_37 ?_
    refine q_bipush C dX4_readThing_40 (by decide) ?_
    refine q_icmp_eq (tgt := 76) C dX4_readThing_42 (by decide) ⟨by omega, by omega⟩ ⟨by omega, by omega⟩ (fun z => absurd z (by omega)) (fun _ => ?_)
    refine q_aload_n C hl dX4_readThing_45 rfl 0 rfl ?_
    refine q_getM (v := .int (jj 0)) C w.1 (fun w h => List.mem_cons_of_mem _ (List.mem_append_right _ h)) 12 (by decide) (List.mem_of_getElem? (i := 4) rfl) rfl dX4_readThing_46 ?_
    refine q_bipush C dX4_readThing_49 (by decide) ?_
    refine q_icmp_eq (tgt := 76) C dX4_readThing_51 (by decide) ⟨by omega, by omega⟩ ⟨by omega, by omega⟩ (fun z => absurd z (by omega)) (fun _ => ?_)
    refine q_aload_n C hl dX4_readThing_54 rfl 0 rfl ?_
    refine q_getM (v := .int (jj 0)) C w.1 (fun w h => List.mem_cons_of_mem _ (List.mem_append_right _ h)) 12 (by decide) (List.mem_of_getElem? (i := 4) rfl) rfl dX4_readThing_55 ?_
    refine q_bipush C dX4_readThing_58 (by decide) ?_
    refine q_icmp_eq (tgt := 76) C dX4_readThing_60 (by decide) ⟨by omega, by omega⟩ ⟨by omega, by omega⟩ (fun z => absurd z (by omega)) (fun _ => ?_)
    refine q_aload_n C hl dX4_readThing_63 rfl 0 rfl ?_
    refine q_getM (v := .int (jj 0)) C w.1 (fun w h => List.mem_cons_of_mem _ (List.mem_append_right _ h)) 12 (by decide) (List.mem_of_getElem? (i := 4) rfl) rfl dX4_readThing_64 ?_
    refine q_bipush C dX4_readThing_67 (by decide) ?_
    refine q_icmp_eq (tgt := 76) C dX4_readThing_69 (by decide) ⟨by omega, by omega⟩ ⟨by omega, by omega⟩ (fun z => absurd z (by omega)) (fun _ => ?_)
    refine q_iconst C dX4_readThing_72 ?_
    refine q_goto (tgt := 77) C dX4_readThing_73 (by decide) ?_
    refine q_putM C w (fun w h => List.mem_cons_of_mem _ (List.mem_append_right _ h)) 11 (by decide) (List.mem_of_getElem? (i := 5) rfl) rfl rfl (nar_b (by omega)) rfl dX4_readThing_77 (mP11 cI h ad _ _ _ _ _ _ _) (fun H locs w => ?_)
    refine q_aload_n C hl dX4_readThing_80 rfl 0 rfl ?_
    refine q_dup C dX4_readThing_81 rfl ?_
    refine q_getM (v := .int (jj P)) C w.1 (fun w h => List.mem_cons_of_mem _ (List.mem_append_right _ h)) 10 (by decide) (List.mem_of_getElem? (i := 1) rfl) (gt_v rfl e10) dX4_readThing_82 ?_
    refine q_aload_n C hl dX4_readThing_85 rfl 0 rfl ?_
    refine q_getM (v := .int (jj 1)) C w.1 (fun w h => List.mem_cons_of_mem _ (List.mem_append_right _ h)) 11 (by decide) (List.mem_of_getElem? (i := 5) rfl) rfl dX4_readThing_86 ?_
    refine q_if_eq (tgt := 96) C dX4_readThing_89 (by decide) ⟨by omega, by omega⟩ (fun z => absurd z (by omega)) (fun _ => ?_)
    refine q_iconst C dX4_readThing_92 ?_
    refine q_goto (tgt := 97) C dX4_readThing_93 (by decide) ?_
    refine q_iadd C dX4_readThing_97 ?_
    refine q_putM C w (fun w h => List.mem_cons_of_mem _ (List.mem_append_right _ h)) 10 (by decide) (List.mem_of_getElem? (i := 1) rfl) rfl rfl rfl rfl dX4_readThing_98 (mP10 cI h ad _ _ _ _ _ _ _) (fun H locs w => ?_)
    refine q_aload_n C hl dX4_readThing_101 rfl 0 rfl ?_
    refine q_aload_n C hl dX4_readThing_102 rfl 0 rfl ?_
    refine q_getM (v := .int (jj 0)) C w.1 (fun w h => List.mem_cons_of_mem _ (List.mem_append_right _ h)) 12 (by decide) (List.mem_of_getElem? (i := 4) rfl) rfl dX4_readThing_103 ?_
    refine q_bipush C dX4_readThing_106 (by decide) ?_
    refine q_icmp_ne (tgt := 115) C dX4_readThing_108 (by decide) ⟨by omega, by omega⟩ ⟨by omega, by omega⟩ (fun _ => ?_) (fun z => absurd z (by omega))
    refine q_aload_n C hl dX4_readThing_115 rfl 0 rfl ?_
    refine q_getM (v := .int (jj 0)) C w.1 (fun w h => List.mem_cons_of_mem _ (List.mem_append_right _ h)) 12 (by decide) (List.mem_of_getElem? (i := 4) rfl) rfl dX4_readThing_116 ?_
    refine q_bipush C dX4_readThing_119 (by decide) ?_
    refine q_icmp_ne (tgt := 134) C dX4_readThing_121 (by decide) ⟨by omega, by omega⟩ ⟨by omega, by omega⟩ (fun _ => ?_) (fun z => absurd z (by omega))
    refine q_aload_n C hl dX4_readThing_134 rfl 0 rfl ?_
    refine q_iconst C dX4_readThing_135 ?_
    refine q_bipush C dX4_readThing_136 (by decide) ?_
    refine q_runi C w fr_all (q_V (As := [.int (jj 1), .int (jj 99)]) (rest := [.ref h]) C w fr_all fX4_takesNumber gX4_readThing_X4_takesNumber rfl ⟨Nat.le_of_ble_eq_true rfl, Nat.le_of_ble_eq_true rfl⟩ (kX4_takesNumber_bad l D cI cC cS h ad σ α ς β τ (up (up (up q 12 0) 11 1) 10 (P + 0)) (P + 0) le 1 1 99 rfl e7 rfl (by omega) (by omega) bt (by omega) (by omega) (by omega) _) (q0 := 0) rfl rfl rfl rfl hl (Nat.le_of_ble_eq_true rfl) dX4_readThing_138 ⟨Nat.le_refl 0, Nat.le_refl 0⟩) (fun H locs w => ?_)
    refine q_putM C w (fun w h => List.mem_cons_of_mem _ (List.mem_append_right _ h)) 13 (by decide) (List.mem_of_getElem? (i := 6) rfl) rfl rfl rfl rfl dX4_readThing_141 (mP13 cI h ad _ _ _ _ _ _ _) (fun H locs w => ?_)
    refine q_aload_n C hl dX4_readThing_144 rfl 0 rfl ?_
    refine q_aload_n C hl dX4_readThing_145 rfl 0 rfl ?_
    refine q_getM (v := .int (jj 0)) C w.1 (fun w h => List.mem_cons_of_mem _ (List.mem_append_right _ h)) 12 (by decide) (List.mem_of_getElem? (i := 4) rfl) rfl dX4_readThing_146 ?_
    refine q_bipush C dX4_readThing_149 (by decide) ?_
    refine q_icmp_ne (tgt := 169) C dX4_readThing_151 (by decide) ⟨by omega, by omega⟩ ⟨by omega, by omega⟩ (fun _ => ?_) (fun z => absurd z (by omega))
    refine q_aload_n C hl dX4_readThing_169 rfl 0 rfl ?_
    refine q_getM (v := .int (jj 0)) C w.1 (fun w h => List.mem_cons_of_mem _ (List.mem_append_right _ h)) 12 (by decide) (List.mem_of_getElem? (i := 4) rfl) rfl dX4_readThing_170 ?_
    refine q_bipush C dX4_readThing_173 (by decide) ?_
    refine q_icmp_ne (tgt := 193) C dX4_readThing_175 (by decide) ⟨by omega, by omega⟩ ⟨by omega, by omega⟩ (fun _ => ?_) (fun z => absurd z (by omega))
    refine q_iconst C dX4_readThing_193 ?_
    refine q_putM C w (fun w h => List.mem_cons_of_mem _ (List.mem_append_right _ h)) 14 (by decide) (List.mem_of_getElem? (i := 7) rfl) rfl rfl rfl rfl dX4_readThing_194 (mP14 cI h ad _ _ _ _ _ _ _) (fun H locs w => ?_)
    refine q_aload_n C hl dX4_readThing_197 rfl 0 rfl ?_
    refine q_dup C dX4_readThing_198 rfl ?_
    refine q_getM (v := .int (jj ((P + 0) + 0))) C w.1 (fun w h => List.mem_cons_of_mem _ (List.mem_append_right _ h)) 10 (by decide) (List.mem_of_getElem? (i := 1) rfl) rfl dX4_readThing_199 ?_
    refine q_aload_n C hl dX4_readThing_202 rfl 0 rfl ?_
    refine q_getM (v := .int (jj 0)) C w.1 (fun w h => List.mem_cons_of_mem _ (List.mem_append_right _ h)) 14 (by decide) (List.mem_of_getElem? (i := 7) rfl) rfl dX4_readThing_203 ?_
    refine q_if_le (tgt := 213) C dX4_readThing_206 (by decide) ⟨by omega, by omega⟩ (fun _ => ?_) (fun z => absurd z (by omega))
    refine q_iconst C dX4_readThing_213 ?_
    refine q_iadd C dX4_readThing_214 ?_
    refine q_putM C w (fun w h => List.mem_cons_of_mem _ (List.mem_append_right _ h)) 10 (by decide) (List.mem_of_getElem? (i := 1) rfl) rfl rfl rfl rfl dX4_readThing_215 (mP10 cI h ad _ _ _ _ _ _ _) (fun H locs w => ?_)
    exact q_vret C w dX4_readThing_218 (by have f1 : tfl τ le P = (((P + 0) + 0) + 0) := (by unfold tfl; split <;> omega); unfold bq; rw [f1]; simp only [Int.add_zero]; refine congrArg (fun z => mW cI h ad σ α ς β τ z) ?_; funext k; simp only [up]; (repeat' split) <;> first | rfl | omega)
  · have c1 := c1
    have el := ltr_in (τ := τ) (le := le) (P := P) (by omega)
    refine q_aload_n C hl dX4_readThing_12 rfl 0 rfl ?_
    refine q_getM C w.1 (fun w h => List.mem_cons_of_mem _ (List.mem_append_right _ h)) 6 (by decide) (List.mem_of_getElem? (i := 3) rfl) rfl dX4_readThing_13 ?_
    refine q_aload_n C hl dX4_readThing_16 rfl 0 rfl ?_
    refine q_getM (v := .int (jj P)) C w.1 (fun w h => List.mem_cons_of_mem _ (List.mem_append_right _ h)) 10 (by decide) (List.mem_of_getElem? (i := 1) rfl) (gt_v rfl e10) dX4_readThing_17 ?_
    refine q_iald (n := 60) (f := τ) C w.1 5 0 rfl rfl ⟨by omega, by omega, by omega⟩ dX4_readThing_20 ?_
    refine q_goto (tgt := 25) C dX4_readThing_21 (by decide) ?_
    rw [← el]
    refine q_putM C w (fun w h => List.mem_cons_of_mem _ (List.mem_append_right _ h)) 12 (by decide) (List.mem_of_getElem? (i := 4) rfl) rfl rfl rfl rfl dX4_readThing_25 (mP12 cI h ad _ _ _ _ _ _ _) (fun H locs w => ?_)
    refine q_aload_n C hl dX4_readThing_28 rfl 0 rfl ?_
    refine q_aload_n C hl dX4_readThing_29 rfl 0 rfl ?_
    refine q_getM (v := .int (jj 0)) C w.1 (fun w h => List.mem_cons_of_mem _ (List.mem_append_right _ h)) 11 (by decide) (List.mem_of_getElem? (i := 5) rfl) (gt_v rfl e11) dX4_readThing_30 ?_
    refine q_if_ne (tgt := 72) C dX4_readThing_33 (by decide) ⟨by omega, by omega⟩ (fun z => absurd z (by omega)) (fun _ => ?_)
    refine q_aload_n C hl dX4_readThing_36 rfl 0 rfl ?_
    refine q_getM (v := .int (jj (ltr τ le P))) C w.1 (fun w h => List.mem_cons_of_mem _ (List.mem_append_right _ h)) 12 (by decide) (List.mem_of_getElem? (i := 4) rfl) rfl dX4_readThing_37 ?_
    refine q_bipush C dX4_readThing_40 (by decide) ?_
    refine q_icmp_eq (tgt := 76) C dX4_readThing_42 (by decide) ⟨by omega, by omega⟩ ⟨by omega, by omega⟩ (fun c14 => ?_) (fun c14 => ?_)
    · have c14 := c14
      refine q_iconst C dX4_readThing_76 ?_
      refine q_putM C w (fun w h => List.mem_cons_of_mem _ (List.mem_append_right _ h)) 11 (by decide) (List.mem_of_getElem? (i := 5) rfl) rfl rfl (nar_b (by omega)) rfl dX4_readThing_77 (mP11 cI h ad _ _ _ _ _ _ _) (fun H locs w => ?_)
      refine q_aload_n C hl dX4_readThing_80 rfl 0 rfl ?_
      refine q_dup C dX4_readThing_81 rfl ?_
      refine q_getM (v := .int (jj P)) C w.1 (fun w h => List.mem_cons_of_mem _ (List.mem_append_right _ h)) 10 (by decide) (List.mem_of_getElem? (i := 1) rfl) (gt_v rfl e10) dX4_readThing_82 ?_
      refine q_aload_n C hl dX4_readThing_85 rfl 0 rfl ?_
      refine q_getM (v := .int (jj 0)) C w.1 (fun w h => List.mem_cons_of_mem _ (List.mem_append_right _ h)) 11 (by decide) (List.mem_of_getElem? (i := 5) rfl) rfl dX4_readThing_86 ?_
      refine q_if_eq (tgt := 96) C dX4_readThing_89 (by decide) ⟨by omega, by omega⟩ (fun _ => ?_) (fun z => absurd z (by omega))
      refine q_iconst C dX4_readThing_96 ?_
      refine q_iadd C dX4_readThing_97 ?_
      refine q_putM C w (fun w h => List.mem_cons_of_mem _ (List.mem_append_right _ h)) 10 (by decide) (List.mem_of_getElem? (i := 1) rfl) rfl rfl rfl rfl dX4_readThing_98 (mP10 cI h ad _ _ _ _ _ _ _) (fun H locs w => ?_)
      refine q_aload_n C hl dX4_readThing_101 rfl 0 rfl ?_
      refine q_aload_n C hl dX4_readThing_102 rfl 0 rfl ?_
      refine q_getM (v := .int (jj (ltr τ le P))) C w.1 (fun w h => List.mem_cons_of_mem _ (List.mem_append_right _ h)) 12 (by decide) (List.mem_of_getElem? (i := 4) rfl) rfl dX4_readThing_103 ?_
      refine q_bipush C dX4_readThing_106 (by decide) ?_
      refine q_icmp_ne (tgt := 115) C dX4_readThing_108 (by decide) ⟨by omega, by omega⟩ ⟨by omega, by omega⟩ (fun _ => ?_) (fun z => absurd z (by omega))
      refine q_aload_n C hl dX4_readThing_115 rfl 0 rfl ?_
      refine q_getM (v := .int (jj (ltr τ le P))) C w.1 (fun w h => List.mem_cons_of_mem _ (List.mem_append_right _ h)) 12 (by decide) (List.mem_of_getElem? (i := 4) rfl) rfl dX4_readThing_116 ?_
      refine q_bipush C dX4_readThing_119 (by decide) ?_
      refine q_icmp_ne (tgt := 134) C dX4_readThing_121 (by decide) ⟨by omega, by omega⟩ ⟨by omega, by omega⟩ (fun _ => ?_) (fun z => absurd z (by omega))
      refine q_aload_n C hl dX4_readThing_134 rfl 0 rfl ?_
      refine q_iconst C dX4_readThing_135 ?_
      refine q_bipush C dX4_readThing_136 (by decide) ?_
      refine q_runi C w fr_all (q_V (As := [.int (jj 1), .int (jj 99)]) (rest := [.ref h]) C w fr_all fX4_takesNumber gX4_readThing_X4_takesNumber rfl ⟨Nat.le_of_ble_eq_true rfl, Nat.le_of_ble_eq_true rfl⟩ (kX4_takesNumber_bad l D cI cC cS h ad σ α ς β τ (up (up (up q 12 (ltr τ le P)) 11 0) 10 (P + 1)) (P + 1) le 0 1 99 rfl e7 rfl (by omega) (by omega) bt (by omega) (by omega) (by omega) _) (q0 := 0) rfl rfl rfl rfl hl (Nat.le_of_ble_eq_true rfl) dX4_readThing_138 ⟨Nat.le_refl 0, Nat.le_refl 0⟩) (fun H locs w => ?_)
      refine q_putM C w (fun w h => List.mem_cons_of_mem _ (List.mem_append_right _ h)) 13 (by decide) (List.mem_of_getElem? (i := 6) rfl) rfl rfl rfl rfl dX4_readThing_141 (mP13 cI h ad _ _ _ _ _ _ _) (fun H locs w => ?_)
      refine q_aload_n C hl dX4_readThing_144 rfl 0 rfl ?_
      refine q_aload_n C hl dX4_readThing_145 rfl 0 rfl ?_
      refine q_getM (v := .int (jj (ltr τ le P))) C w.1 (fun w h => List.mem_cons_of_mem _ (List.mem_append_right _ h)) 12 (by decide) (List.mem_of_getElem? (i := 4) rfl) rfl dX4_readThing_146 ?_
      refine q_bipush C dX4_readThing_149 (by decide) ?_
      refine q_icmp_ne (tgt := 169) C dX4_readThing_151 (by decide) ⟨by omega, by omega⟩ ⟨by omega, by omega⟩ (fun z => absurd z (by omega)) (fun _ => ?_)
      refine q_aload_n C hl dX4_readThing_154 rfl 0 rfl ?_
      refine q_bipush C dX4_readThing_155 (by decide) ?_
      refine q_bipush C dX4_readThing_157 (by decide) ?_
      refine q_runi C w fr_all (q_V (As := [.int (jj 60), .int (jj 60)]) (rest := [.ref h]) C w fr_all fX4_isNext gX4_readThing_X4_isNext rfl ⟨Nat.le_of_ble_eq_true rfl, Nat.le_of_ble_eq_true rfl⟩ (kX4_isNext l D cI cC cS h ad σ α ς β τ (up (up (up (up (up (up q 12 (ltr τ le P)) 11 0) 10 (P + 1)) 11 1) 10 ((P + 1) + 0)) 13 (ltr τ le (P + 1) - 48)) ((P + 1) + 0) le 1 60 60 rfl e7 rfl (by omega) (by omega) bt (by omega) (by omega) _) (q0 := 0) rfl rfl rfl rfl hl (Nat.le_of_ble_eq_true rfl) dX4_readThing_159 ⟨Nat.le_refl 0, Nat.le_refl 0⟩) (fun H locs w => ?_)
      refine q_ifz_eq (tgt := 169) C dX4_readThing_162 (by decide) (fun c19 => ?_) (fun c19 => ?_)
      · have c19 := c19
        refine q_aload_n C hl dX4_readThing_169 rfl 0 rfl ?_
        refine q_getM (v := .int (jj (ltr τ le P))) C w.1 (fun w h => List.mem_cons_of_mem _ (List.mem_append_right _ h)) 12 (by decide) (List.mem_of_getElem? (i := 4) rfl) rfl dX4_readThing_170 ?_
        refine q_bipush C dX4_readThing_173 (by decide) ?_
        refine q_icmp_ne (tgt := 193) C dX4_readThing_175 (by decide) ⟨by omega, by omega⟩ ⟨by omega, by omega⟩ (fun z => absurd z (by omega)) (fun _ => ?_)
        refine q_aload_n C hl dX4_readThing_178 rfl 0 rfl ?_
        refine q_bipush C dX4_readThing_179 (by decide) ?_
        refine q_bipush C dX4_readThing_181 (by decide) ?_
        refine q_runi C w fr_all (q_V (As := [.int (jj 62), .int (jj 62)]) (rest := [.ref h]) C w fr_all fX4_isNext gX4_readThing_X4_isNext rfl ⟨Nat.le_of_ble_eq_true rfl, Nat.le_of_ble_eq_true rfl⟩ (kX4_isNext l D cI cC cS h ad σ α ς β τ (up (up (up (up (up (up q 12 (ltr τ le P)) 11 0) 10 (P + 1)) 11 1) 10 ((P + 1) + 0)) 13 (ltr τ le (P + 1) - 48)) ((P + 1) + 0) le 1 62 62 rfl e7 rfl (by omega) (by omega) bt (by omega) (by omega) _) (q0 := 0) rfl rfl rfl rfl hl (Nat.le_of_ble_eq_true rfl) dX4_readThing_183 ⟨Nat.le_refl 0, Nat.le_refl 0⟩) (fun H locs w => ?_)
        refine q_ifz_eq (tgt := 193) C dX4_readThing_186 (by decide) (fun c21 => ?_) (fun c21 => ?_)
        · have c21 := c21
          refine q_iconst C dX4_readThing_193 ?_
          refine q_putM C w (fun w h => List.mem_cons_of_mem _ (List.mem_append_right _ h)) 14 (by decide) (List.mem_of_getElem? (i := 7) rfl) rfl rfl rfl rfl dX4_readThing_194 (mP14 cI h ad _ _ _ _ _ _ _) (fun H locs w => ?_)
          refine q_aload_n C hl dX4_readThing_197 rfl 0 rfl ?_
          refine q_dup C dX4_readThing_198 rfl ?_
          refine q_getM (v := .int (jj ((P + 1) + 0))) C w.1 (fun w h => List.mem_cons_of_mem _ (List.mem_append_right _ h)) 10 (by decide) (List.mem_of_getElem? (i := 1) rfl) rfl dX4_readThing_199 ?_
          refine q_aload_n C hl dX4_readThing_202 rfl 0 rfl ?_
          refine q_getM (v := .int (jj 0)) C w.1 (fun w h => List.mem_cons_of_mem _ (List.mem_append_right _ h)) 14 (by decide) (List.mem_of_getElem? (i := 7) rfl) rfl dX4_readThing_203 ?_
          refine q_if_le (tgt := 213) C dX4_readThing_206 (by decide) ⟨by omega, by omega⟩ (fun _ => ?_) (fun z => absurd z (by omega))
          refine q_iconst C dX4_readThing_213 ?_
          refine q_iadd C dX4_readThing_214 ?_
          refine q_putM C w (fun w h => List.mem_cons_of_mem _ (List.mem_append_right _ h)) 10 (by decide) (List.mem_of_getElem? (i := 1) rfl) rfl rfl rfl rfl dX4_readThing_215 (mP10 cI h ad _ _ _ _ _ _ _) (fun H locs w => ?_)
          exact q_vret C w dX4_readThing_218 (by have f1 : tfl τ le P = (((P + 1) + 0) + 0) := (by unfold tfl; split <;> omega); unfold bq; rw [f1]; simp only [Int.add_zero]; refine congrArg (fun z => mW cI h ad σ α ς β τ z) ?_; funext k; simp only [up]; (repeat' split) <;> first | rfl | omega)
        · exact absurd c21 (by omega)
      · exact absurd c19 (by omega)
    · have c14 := c14
      refine q_aload_n C hl dX4_readThing_45 rfl 0 rfl ?_
      refine q_getM (v := .int (jj (ltr τ le P))) C w.1 (fun w h => List.mem_cons_of_mem _ (List.mem_append_right _ h)) 12 (by decide) (List.mem_of_getElem? (i := 4) rfl) rfl dX4_readThing_46 ?_
      refine q_bipush C dX4_readThing_49 (by decide) ?_
      refine q_icmp_eq (tgt := 76) C dX4_readThing_51 (by decide) ⟨by omega, by omega⟩ ⟨by omega, by omega⟩ (fun c23 => ?_) (fun c23 => ?_)
      · have c23 := c23
        refine q_iconst C dX4_readThing_76 ?_
        refine q_putM C w (fun w h => List.mem_cons_of_mem _ (List.mem_append_right _ h)) 11 (by decide) (List.mem_of_getElem? (i := 5) rfl) rfl rfl (nar_b (by omega)) rfl dX4_readThing_77 (mP11 cI h ad _ _ _ _ _ _ _) (fun H locs w => ?_)
        refine q_aload_n C hl dX4_readThing_80 rfl 0 rfl ?_
        refine q_dup C dX4_readThing_81 rfl ?_
        refine q_getM (v := .int (jj P)) C w.1 (fun w h => List.mem_cons_of_mem _ (List.mem_append_right _ h)) 10 (by decide) (List.mem_of_getElem? (i := 1) rfl) (gt_v rfl e10) dX4_readThing_82 ?_
        refine q_aload_n C hl dX4_readThing_85 rfl 0 rfl ?_
        refine q_getM (v := .int (jj 0)) C w.1 (fun w h => List.mem_cons_of_mem _ (List.mem_append_right _ h)) 11 (by decide) (List.mem_of_getElem? (i := 5) rfl) rfl dX4_readThing_86 ?_
        refine q_if_eq (tgt := 96) C dX4_readThing_89 (by decide) ⟨by omega, by omega⟩ (fun _ => ?_) (fun z => absurd z (by omega))
        refine q_iconst C dX4_readThing_96 ?_
        refine q_iadd C dX4_readThing_97 ?_
        refine q_putM C w (fun w h => List.mem_cons_of_mem _ (List.mem_append_right _ h)) 10 (by decide) (List.mem_of_getElem? (i := 1) rfl) rfl rfl rfl rfl dX4_readThing_98 (mP10 cI h ad _ _ _ _ _ _ _) (fun H locs w => ?_)
        refine q_aload_n C hl dX4_readThing_101 rfl 0 rfl ?_
        refine q_aload_n C hl dX4_readThing_102 rfl 0 rfl ?_
        refine q_getM (v := .int (jj (ltr τ le P))) C w.1 (fun w h => List.mem_cons_of_mem _ (List.mem_append_right _ h)) 12 (by decide) (List.mem_of_getElem? (i := 4) rfl) rfl dX4_readThing_103 ?_
        refine q_bipush C dX4_readThing_106 (by decide) ?_
        refine q_icmp_ne (tgt := 115) C dX4_readThing_108 (by decide) ⟨by omega, by omega⟩ ⟨by omega, by omega⟩ (fun _ => ?_) (fun z => absurd z (by omega))
        refine q_aload_n C hl dX4_readThing_115 rfl 0 rfl ?_
        refine q_getM (v := .int (jj (ltr τ le P))) C w.1 (fun w h => List.mem_cons_of_mem _ (List.mem_append_right _ h)) 12 (by decide) (List.mem_of_getElem? (i := 4) rfl) rfl dX4_readThing_116 ?_
        refine q_bipush C dX4_readThing_119 (by decide) ?_
        refine q_icmp_ne (tgt := 134) C dX4_readThing_121 (by decide) ⟨by omega, by omega⟩ ⟨by omega, by omega⟩ (fun _ => ?_) (fun z => absurd z (by omega))
        refine q_aload_n C hl dX4_readThing_134 rfl 0 rfl ?_
        refine q_iconst C dX4_readThing_135 ?_
        refine q_bipush C dX4_readThing_136 (by decide) ?_
        refine q_runi C w fr_all (q_V (As := [.int (jj 1), .int (jj 99)]) (rest := [.ref h]) C w fr_all fX4_takesNumber gX4_readThing_X4_takesNumber rfl ⟨Nat.le_of_ble_eq_true rfl, Nat.le_of_ble_eq_true rfl⟩ (kX4_takesNumber_bad l D cI cC cS h ad σ α ς β τ (up (up (up q 12 (ltr τ le P)) 11 0) 10 (P + 1)) (P + 1) le 0 1 99 rfl e7 rfl (by omega) (by omega) bt (by omega) (by omega) (by omega) _) (q0 := 0) rfl rfl rfl rfl hl (Nat.le_of_ble_eq_true rfl) dX4_readThing_138 ⟨Nat.le_refl 0, Nat.le_refl 0⟩) (fun H locs w => ?_)
        refine q_putM C w (fun w h => List.mem_cons_of_mem _ (List.mem_append_right _ h)) 13 (by decide) (List.mem_of_getElem? (i := 6) rfl) rfl rfl rfl rfl dX4_readThing_141 (mP13 cI h ad _ _ _ _ _ _ _) (fun H locs w => ?_)
        refine q_aload_n C hl dX4_readThing_144 rfl 0 rfl ?_
        refine q_aload_n C hl dX4_readThing_145 rfl 0 rfl ?_
        refine q_getM (v := .int (jj (ltr τ le P))) C w.1 (fun w h => List.mem_cons_of_mem _ (List.mem_append_right _ h)) 12 (by decide) (List.mem_of_getElem? (i := 4) rfl) rfl dX4_readThing_146 ?_
        refine q_bipush C dX4_readThing_149 (by decide) ?_
        refine q_icmp_ne (tgt := 169) C dX4_readThing_151 (by decide) ⟨by omega, by omega⟩ ⟨by omega, by omega⟩ (fun _ => ?_) (fun z => absurd z (by omega))
        refine q_aload_n C hl dX4_readThing_169 rfl 0 rfl ?_
        refine q_getM (v := .int (jj (ltr τ le P))) C w.1 (fun w h => List.mem_cons_of_mem _ (List.mem_append_right _ h)) 12 (by decide) (List.mem_of_getElem? (i := 4) rfl) rfl dX4_readThing_170 ?_
        refine q_bipush C dX4_readThing_173 (by decide) ?_
        refine q_icmp_ne (tgt := 193) C dX4_readThing_175 (by decide) ⟨by omega, by omega⟩ ⟨by omega, by omega⟩ (fun _ => ?_) (fun z => absurd z (by omega))
        refine q_iconst C dX4_readThing_193 ?_
        refine q_putM C w (fun w h => List.mem_cons_of_mem _ (List.mem_append_right _ h)) 14 (by decide) (List.mem_of_getElem? (i := 7) rfl) rfl rfl rfl rfl dX4_readThing_194 (mP14 cI h ad _ _ _ _ _ _ _) (fun H locs w => ?_)
        refine q_aload_n C hl dX4_readThing_197 rfl 0 rfl ?_
        refine q_dup C dX4_readThing_198 rfl ?_
        refine q_getM (v := .int (jj ((P + 1) + 0))) C w.1 (fun w h => List.mem_cons_of_mem _ (List.mem_append_right _ h)) 10 (by decide) (List.mem_of_getElem? (i := 1) rfl) rfl dX4_readThing_199 ?_
        refine q_aload_n C hl dX4_readThing_202 rfl 0 rfl ?_
        refine q_getM (v := .int (jj 0)) C w.1 (fun w h => List.mem_cons_of_mem _ (List.mem_append_right _ h)) 14 (by decide) (List.mem_of_getElem? (i := 7) rfl) rfl dX4_readThing_203 ?_
        refine q_if_le (tgt := 213) C dX4_readThing_206 (by decide) ⟨by omega, by omega⟩ (fun _ => ?_) (fun z => absurd z (by omega))
        refine q_iconst C dX4_readThing_213 ?_
        refine q_iadd C dX4_readThing_214 ?_
        refine q_putM C w (fun w h => List.mem_cons_of_mem _ (List.mem_append_right _ h)) 10 (by decide) (List.mem_of_getElem? (i := 1) rfl) rfl rfl rfl rfl dX4_readThing_215 (mP10 cI h ad _ _ _ _ _ _ _) (fun H locs w => ?_)
        exact q_vret C w dX4_readThing_218 (by have f1 : tfl τ le P = (((P + 1) + 0) + 0) := (by unfold tfl; split <;> omega); unfold bq; rw [f1]; simp only [Int.add_zero]; refine congrArg (fun z => mW cI h ad σ α ς β τ z) ?_; funext k; simp only [up]; (repeat' split) <;> first | rfl | omega)
      · have c23 := c23
        refine q_aload_n C hl dX4_readThing_54 rfl 0 rfl ?_
        refine q_getM (v := .int (jj (ltr τ le P))) C w.1 (fun w h => List.mem_cons_of_mem _ (List.mem_append_right _ h)) 12 (by decide) (List.mem_of_getElem? (i := 4) rfl) rfl dX4_readThing_55 ?_
        refine q_bipush C dX4_readThing_58 (by decide) ?_
        refine q_icmp_eq (tgt := 76) C dX4_readThing_60 (by decide) ⟨by omega, by omega⟩ ⟨by omega, by omega⟩ (fun c30 => ?_) (fun c30 => ?_)
        · exact absurd c30 (by omega)
        · have c30 := c30
          refine q_aload_n C hl dX4_readThing_63 rfl 0 rfl ?_
          refine q_getM (v := .int (jj (ltr τ le P))) C w.1 (fun w h => List.mem_cons_of_mem _ (List.mem_append_right _ h)) 12 (by decide) (List.mem_of_getElem? (i := 4) rfl) rfl dX4_readThing_64 ?_
          refine q_bipush C dX4_readThing_67 (by decide) ?_
          refine q_icmp_eq (tgt := 76) C dX4_readThing_69 (by decide) ⟨by omega, by omega⟩ ⟨by omega, by omega⟩ (fun c31 => ?_) (fun c31 => ?_)
          · have c31 := c31
            refine q_iconst C dX4_readThing_76 ?_
            refine q_putM C w (fun w h => List.mem_cons_of_mem _ (List.mem_append_right _ h)) 11 (by decide) (List.mem_of_getElem? (i := 5) rfl) rfl rfl (nar_b (by omega)) rfl dX4_readThing_77 (mP11 cI h ad _ _ _ _ _ _ _) (fun H locs w => ?_)
            refine q_aload_n C hl dX4_readThing_80 rfl 0 rfl ?_
            refine q_dup C dX4_readThing_81 rfl ?_
            refine q_getM (v := .int (jj P)) C w.1 (fun w h => List.mem_cons_of_mem _ (List.mem_append_right _ h)) 10 (by decide) (List.mem_of_getElem? (i := 1) rfl) (gt_v rfl e10) dX4_readThing_82 ?_
            refine q_aload_n C hl dX4_readThing_85 rfl 0 rfl ?_
            refine q_getM (v := .int (jj 0)) C w.1 (fun w h => List.mem_cons_of_mem _ (List.mem_append_right _ h)) 11 (by decide) (List.mem_of_getElem? (i := 5) rfl) rfl dX4_readThing_86 ?_
            refine q_if_eq (tgt := 96) C dX4_readThing_89 (by decide) ⟨by omega, by omega⟩ (fun _ => ?_) (fun z => absurd z (by omega))
            refine q_iconst C dX4_readThing_96 ?_
            refine q_iadd C dX4_readThing_97 ?_
            refine q_putM C w (fun w h => List.mem_cons_of_mem _ (List.mem_append_right _ h)) 10 (by decide) (List.mem_of_getElem? (i := 1) rfl) rfl rfl rfl rfl dX4_readThing_98 (mP10 cI h ad _ _ _ _ _ _ _) (fun H locs w => ?_)
            refine q_aload_n C hl dX4_readThing_101 rfl 0 rfl ?_
            refine q_aload_n C hl dX4_readThing_102 rfl 0 rfl ?_
            refine q_getM (v := .int (jj (ltr τ le P))) C w.1 (fun w h => List.mem_cons_of_mem _ (List.mem_append_right _ h)) 12 (by decide) (List.mem_of_getElem? (i := 4) rfl) rfl dX4_readThing_103 ?_
            refine q_bipush C dX4_readThing_106 (by decide) ?_
            refine q_icmp_ne (tgt := 115) C dX4_readThing_108 (by decide) ⟨by omega, by omega⟩ ⟨by omega, by omega⟩ (fun _ => ?_) (fun z => absurd z (by omega))
            refine q_aload_n C hl dX4_readThing_115 rfl 0 rfl ?_
            refine q_getM (v := .int (jj (ltr τ le P))) C w.1 (fun w h => List.mem_cons_of_mem _ (List.mem_append_right _ h)) 12 (by decide) (List.mem_of_getElem? (i := 4) rfl) rfl dX4_readThing_116 ?_
            refine q_bipush C dX4_readThing_119 (by decide) ?_
            refine q_icmp_ne (tgt := 134) C dX4_readThing_121 (by decide) ⟨by omega, by omega⟩ ⟨by omega, by omega⟩ (fun z => absurd z (by omega)) (fun _ => ?_)
            refine q_aload_n C hl dX4_readThing_124 rfl 0 rfl ?_
            refine q_iconst C dX4_readThing_125 ?_
            refine q_bipush C dX4_readThing_126 (by decide) ?_
            refine q_runi C w fr_all (q_V (As := [.int (jj 0), .int (jj 15)]) (rest := [.ref h]) C w fr_all fX4_takesNumber gX4_readThing_X4_takesNumber rfl ⟨Nat.le_of_ble_eq_true rfl, Nat.le_of_ble_eq_true rfl⟩ (kX4_takesNumber_bad l D cI cC cS h ad σ α ς β τ (up (up (up q 12 (ltr τ le P)) 11 0) 10 (P + 1)) (P + 1) le 0 0 15 rfl e7 rfl (by omega) (by omega) bt (by omega) (by omega) (by omega) _) (q0 := 0) rfl rfl rfl rfl hl (Nat.le_of_ble_eq_true rfl) dX4_readThing_128 ⟨Nat.le_refl 0, Nat.le_refl 0⟩) (fun H locs w => ?_)
            refine q_goto (tgt := 141) C dX4_readThing_131 (by decide) ?_
            refine q_putM C w (fun w h => List.mem_cons_of_mem _ (List.mem_append_right _ h)) 13 (by decide) (List.mem_of_getElem? (i := 6) rfl) rfl rfl rfl rfl dX4_readThing_141 (mP13 cI h ad _ _ _ _ _ _ _) (fun H locs w => ?_)
            refine q_aload_n C hl dX4_readThing_144 rfl 0 rfl ?_
            refine q_aload_n C hl dX4_readThing_145 rfl 0 rfl ?_
            refine q_getM (v := .int (jj (ltr τ le P))) C w.1 (fun w h => List.mem_cons_of_mem _ (List.mem_append_right _ h)) 12 (by decide) (List.mem_of_getElem? (i := 4) rfl) rfl dX4_readThing_146 ?_
            refine q_bipush C dX4_readThing_149 (by decide) ?_
            refine q_icmp_ne (tgt := 169) C dX4_readThing_151 (by decide) ⟨by omega, by omega⟩ ⟨by omega, by omega⟩ (fun _ => ?_) (fun z => absurd z (by omega))
            refine q_aload_n C hl dX4_readThing_169 rfl 0 rfl ?_
            refine q_getM (v := .int (jj (ltr τ le P))) C w.1 (fun w h => List.mem_cons_of_mem _ (List.mem_append_right _ h)) 12 (by decide) (List.mem_of_getElem? (i := 4) rfl) rfl dX4_readThing_170 ?_
            refine q_bipush C dX4_readThing_173 (by decide) ?_
            refine q_icmp_ne (tgt := 193) C dX4_readThing_175 (by decide) ⟨by omega, by omega⟩ ⟨by omega, by omega⟩ (fun _ => ?_) (fun z => absurd z (by omega))
            refine q_iconst C dX4_readThing_193 ?_
            refine q_putM C w (fun w h => List.mem_cons_of_mem _ (List.mem_append_right _ h)) 14 (by decide) (List.mem_of_getElem? (i := 7) rfl) rfl rfl rfl rfl dX4_readThing_194 (mP14 cI h ad _ _ _ _ _ _ _) (fun H locs w => ?_)
            refine q_aload_n C hl dX4_readThing_197 rfl 0 rfl ?_
            refine q_dup C dX4_readThing_198 rfl ?_
            refine q_getM (v := .int (jj ((P + 1) + 0))) C w.1 (fun w h => List.mem_cons_of_mem _ (List.mem_append_right _ h)) 10 (by decide) (List.mem_of_getElem? (i := 1) rfl) rfl dX4_readThing_199 ?_
            refine q_aload_n C hl dX4_readThing_202 rfl 0 rfl ?_
            refine q_getM (v := .int (jj 0)) C w.1 (fun w h => List.mem_cons_of_mem _ (List.mem_append_right _ h)) 14 (by decide) (List.mem_of_getElem? (i := 7) rfl) rfl dX4_readThing_203 ?_
            refine q_if_le (tgt := 213) C dX4_readThing_206 (by decide) ⟨by omega, by omega⟩ (fun _ => ?_) (fun z => absurd z (by omega))
            refine q_iconst C dX4_readThing_213 ?_
            refine q_iadd C dX4_readThing_214 ?_
            refine q_putM C w (fun w h => List.mem_cons_of_mem _ (List.mem_append_right _ h)) 10 (by decide) (List.mem_of_getElem? (i := 1) rfl) rfl rfl rfl rfl dX4_readThing_215 (mP10 cI h ad _ _ _ _ _ _ _) (fun H locs w => ?_)
            exact q_vret C w dX4_readThing_218 (by have f1 : tfl τ le P = (((P + 1) + 0) + 0) := (by unfold tfl; split <;> omega); unfold bq; rw [f1]; simp only [Int.add_zero]; refine congrArg (fun z => mW cI h ad σ α ς β τ z) ?_; funext k; simp only [up]; (repeat' split) <;> first | rfl | omega)
          · have c31 := c31
            refine q_iconst C dX4_readThing_72 ?_
            refine q_goto (tgt := 77) C dX4_readThing_73 (by decide) ?_
            refine q_putM C w (fun w h => List.mem_cons_of_mem _ (List.mem_append_right _ h)) 11 (by decide) (List.mem_of_getElem? (i := 5) rfl) rfl rfl (nar_b (by omega)) rfl dX4_readThing_77 (mP11 cI h ad _ _ _ _ _ _ _) (fun H locs w => ?_)
            refine q_aload_n C hl dX4_readThing_80 rfl 0 rfl ?_
            refine q_dup C dX4_readThing_81 rfl ?_
            refine q_getM (v := .int (jj P)) C w.1 (fun w h => List.mem_cons_of_mem _ (List.mem_append_right _ h)) 10 (by decide) (List.mem_of_getElem? (i := 1) rfl) (gt_v rfl e10) dX4_readThing_82 ?_
            refine q_aload_n C hl dX4_readThing_85 rfl 0 rfl ?_
            refine q_getM (v := .int (jj 1)) C w.1 (fun w h => List.mem_cons_of_mem _ (List.mem_append_right _ h)) 11 (by decide) (List.mem_of_getElem? (i := 5) rfl) rfl dX4_readThing_86 ?_
            refine q_if_eq (tgt := 96) C dX4_readThing_89 (by decide) ⟨by omega, by omega⟩ (fun z => absurd z (by omega)) (fun _ => ?_)
            refine q_iconst C dX4_readThing_92 ?_
            refine q_goto (tgt := 97) C dX4_readThing_93 (by decide) ?_
            refine q_iadd C dX4_readThing_97 ?_
            refine q_putM C w (fun w h => List.mem_cons_of_mem _ (List.mem_append_right _ h)) 10 (by decide) (List.mem_of_getElem? (i := 1) rfl) rfl rfl rfl rfl dX4_readThing_98 (mP10 cI h ad _ _ _ _ _ _ _) (fun H locs w => ?_)
            refine q_aload_n C hl dX4_readThing_101 rfl 0 rfl ?_
            refine q_aload_n C hl dX4_readThing_102 rfl 0 rfl ?_
            refine q_getM (v := .int (jj (ltr τ le P))) C w.1 (fun w h => List.mem_cons_of_mem _ (List.mem_append_right _ h)) 12 (by decide) (List.mem_of_getElem? (i := 4) rfl) rfl dX4_readThing_103 ?_
            refine q_bipush C dX4_readThing_106 (by decide) ?_
            refine q_icmp_ne (tgt := 115) C dX4_readThing_108 (by decide) ⟨by omega, by omega⟩ ⟨by omega, by omega⟩ (fun c39 => ?_) (fun c39 => ?_)
            · have c39 := c39
              refine q_aload_n C hl dX4_readThing_115 rfl 0 rfl ?_
              refine q_getM (v := .int (jj (ltr τ le P))) C w.1 (fun w h => List.mem_cons_of_mem _ (List.mem_append_right _ h)) 12 (by decide) (List.mem_of_getElem? (i := 4) rfl) rfl dX4_readThing_116 ?_
              refine q_bipush C dX4_readThing_119 (by decide) ?_
              refine q_icmp_ne (tgt := 134) C dX4_readThing_121 (by decide) ⟨by omega, by omega⟩ ⟨by omega, by omega⟩ (fun c40 => ?_) (fun c40 => ?_)
              · have c40 := c40
                refine q_aload_n C hl dX4_readThing_134 rfl 0 rfl ?_
                refine q_iconst C dX4_readThing_135 ?_
                refine q_bipush C dX4_readThing_136 (by decide) ?_
                refine q_runi C w fr_all (q_V (As := [.int (jj 1), .int (jj 99)]) (rest := [.ref h]) C w fr_all fX4_takesNumber gX4_readThing_X4_takesNumber rfl ⟨Nat.le_of_ble_eq_true rfl, Nat.le_of_ble_eq_true rfl⟩ (kX4_takesNumber_bad l D cI cC cS h ad σ α ς β τ (up (up (up q 12 (ltr τ le P)) 11 1) 10 (P + 0)) (P + 0) le 1 1 99 rfl e7 rfl (by omega) (by omega) bt (by omega) (by omega) (by omega) _) (q0 := 0) rfl rfl rfl rfl hl (Nat.le_of_ble_eq_true rfl) dX4_readThing_138 ⟨Nat.le_refl 0, Nat.le_refl 0⟩) (fun H locs w => ?_)
                refine q_putM C w (fun w h => List.mem_cons_of_mem _ (List.mem_append_right _ h)) 13 (by decide) (List.mem_of_getElem? (i := 6) rfl) rfl rfl rfl rfl dX4_readThing_141 (mP13 cI h ad _ _ _ _ _ _ _) (fun H locs w => ?_)
                refine q_aload_n C hl dX4_readThing_144 rfl 0 rfl ?_
                refine q_aload_n C hl dX4_readThing_145 rfl 0 rfl ?_
                refine q_getM (v := .int (jj (ltr τ le P))) C w.1 (fun w h => List.mem_cons_of_mem _ (List.mem_append_right _ h)) 12 (by decide) (List.mem_of_getElem? (i := 4) rfl) rfl dX4_readThing_146 ?_
                refine q_bipush C dX4_readThing_149 (by decide) ?_
                refine q_icmp_ne (tgt := 169) C dX4_readThing_151 (by decide) ⟨by omega, by omega⟩ ⟨by omega, by omega⟩ (fun c41 => ?_) (fun c41 => ?_)
                · have c41 := c41
                  refine q_aload_n C hl dX4_readThing_169 rfl 0 rfl ?_
                  refine q_getM (v := .int (jj (ltr τ le P))) C w.1 (fun w h => List.mem_cons_of_mem _ (List.mem_append_right _ h)) 12 (by decide) (List.mem_of_getElem? (i := 4) rfl) rfl dX4_readThing_170 ?_
                  refine q_bipush C dX4_readThing_173 (by decide) ?_
                  refine q_icmp_ne (tgt := 193) C dX4_readThing_175 (by decide) ⟨by omega, by omega⟩ ⟨by omega, by omega⟩ (fun c42 => ?_) (fun c42 => ?_)
                  · have c42 := c42
                    refine q_iconst C dX4_readThing_193 ?_
                    refine q_putM C w (fun w h => List.mem_cons_of_mem _ (List.mem_append_right _ h)) 14 (by decide) (List.mem_of_getElem? (i := 7) rfl) rfl rfl rfl rfl dX4_readThing_194 (mP14 cI h ad _ _ _ _ _ _ _) (fun H locs w => ?_)
                    refine q_aload_n C hl dX4_readThing_197 rfl 0 rfl ?_
                    refine q_dup C dX4_readThing_198 rfl ?_
                    refine q_getM (v := .int (jj ((P + 0) + 0))) C w.1 (fun w h => List.mem_cons_of_mem _ (List.mem_append_right _ h)) 10 (by decide) (List.mem_of_getElem? (i := 1) rfl) rfl dX4_readThing_199 ?_
                    refine q_aload_n C hl dX4_readThing_202 rfl 0 rfl ?_
                    refine q_getM (v := .int (jj 0)) C w.1 (fun w h => List.mem_cons_of_mem _ (List.mem_append_right _ h)) 14 (by decide) (List.mem_of_getElem? (i := 7) rfl) rfl dX4_readThing_203 ?_
                    refine q_if_le (tgt := 213) C dX4_readThing_206 (by decide) ⟨by omega, by omega⟩ (fun _ => ?_) (fun z => absurd z (by omega))
                    refine q_iconst C dX4_readThing_213 ?_
                    refine q_iadd C dX4_readThing_214 ?_
                    refine q_putM C w (fun w h => List.mem_cons_of_mem _ (List.mem_append_right _ h)) 10 (by decide) (List.mem_of_getElem? (i := 1) rfl) rfl rfl rfl rfl dX4_readThing_215 (mP10 cI h ad _ _ _ _ _ _ _) (fun H locs w => ?_)
                    exact q_vret C w dX4_readThing_218 (by have f1 : tfl τ le P = (((P + 0) + 0) + 0) := (by unfold tfl; split <;> omega); unfold bq; rw [f1]; simp only [Int.add_zero]; refine congrArg (fun z => mW cI h ad σ α ς β τ z) ?_; funext k; simp only [up]; (repeat' split) <;> first | rfl | omega)
                  · have c42 := c42
                    refine q_aload_n C hl dX4_readThing_178 rfl 0 rfl ?_
                    refine q_bipush C dX4_readThing_179 (by decide) ?_
                    refine q_bipush C dX4_readThing_181 (by decide) ?_
                    refine q_runi C w fr_all (q_V (As := [.int (jj 62), .int (jj 62)]) (rest := [.ref h]) C w fr_all fX4_isNext gX4_readThing_X4_isNext rfl ⟨Nat.le_of_ble_eq_true rfl, Nat.le_of_ble_eq_true rfl⟩ (kX4_isNext l D cI cC cS h ad σ α ς β τ (up (up (up (up (up (up q 12 (ltr τ le P)) 11 1) 10 (P + 0)) 11 1) 10 ((P + 0) + 0)) 13 (ltr τ le (P + 0) - 48)) ((P + 0) + 0) le 1 62 62 rfl e7 rfl (by omega) (by omega) bt (by omega) (by omega) _) (q0 := 0) rfl rfl rfl rfl hl (Nat.le_of_ble_eq_true rfl) dX4_readThing_183 ⟨Nat.le_refl 0, Nat.le_refl 0⟩) (fun H locs w => ?_)
                    refine q_ifz_eq (tgt := 193) C dX4_readThing_186 (by decide) (fun c44 => ?_) (fun c44 => ?_)
                    · have c44 := c44
                      refine q_iconst C dX4_readThing_193 ?_
                      refine q_putM C w (fun w h => List.mem_cons_of_mem _ (List.mem_append_right _ h)) 14 (by decide) (List.mem_of_getElem? (i := 7) rfl) rfl rfl rfl rfl dX4_readThing_194 (mP14 cI h ad _ _ _ _ _ _ _) (fun H locs w => ?_)
                      refine q_aload_n C hl dX4_readThing_197 rfl 0 rfl ?_
                      refine q_dup C dX4_readThing_198 rfl ?_
                      refine q_getM (v := .int (jj ((P + 0) + 0))) C w.1 (fun w h => List.mem_cons_of_mem _ (List.mem_append_right _ h)) 10 (by decide) (List.mem_of_getElem? (i := 1) rfl) rfl dX4_readThing_199 ?_
                      refine q_aload_n C hl dX4_readThing_202 rfl 0 rfl ?_
                      refine q_getM (v := .int (jj 0)) C w.1 (fun w h => List.mem_cons_of_mem _ (List.mem_append_right _ h)) 14 (by decide) (List.mem_of_getElem? (i := 7) rfl) rfl dX4_readThing_203 ?_
                      refine q_if_le (tgt := 213) C dX4_readThing_206 (by decide) ⟨by omega, by omega⟩ (fun _ => ?_) (fun z => absurd z (by omega))
                      refine q_iconst C dX4_readThing_213 ?_
                      refine q_iadd C dX4_readThing_214 ?_
                      refine q_putM C w (fun w h => List.mem_cons_of_mem _ (List.mem_append_right _ h)) 10 (by decide) (List.mem_of_getElem? (i := 1) rfl) rfl rfl rfl rfl dX4_readThing_215 (mP10 cI h ad _ _ _ _ _ _ _) (fun H locs w => ?_)
                      exact q_vret C w dX4_readThing_218 (by have f1 : tfl τ le P = (((P + 0) + 0) + 0) := (by unfold tfl; split <;> omega); unfold bq; rw [f1]; simp only [Int.add_zero]; refine congrArg (fun z => mW cI h ad σ α ς β τ z) ?_; funext k; simp only [up]; (repeat' split) <;> first | rfl | omega)
                    · exact absurd c44 (by omega)
                · have c41 := c41
                  refine q_aload_n C hl dX4_readThing_154 rfl 0 rfl ?_
                  refine q_bipush C dX4_readThing_155 (by decide) ?_
                  refine q_bipush C dX4_readThing_157 (by decide) ?_
                  refine q_runi C w fr_all (q_V (As := [.int (jj 60), .int (jj 60)]) (rest := [.ref h]) C w fr_all fX4_isNext gX4_readThing_X4_isNext rfl ⟨Nat.le_of_ble_eq_true rfl, Nat.le_of_ble_eq_true rfl⟩ (kX4_isNext l D cI cC cS h ad σ α ς β τ (up (up (up (up (up (up q 12 (ltr τ le P)) 11 1) 10 (P + 0)) 11 1) 10 ((P + 0) + 0)) 13 (ltr τ le (P + 0) - 48)) ((P + 0) + 0) le 1 60 60 rfl e7 rfl (by omega) (by omega) bt (by omega) (by omega) _) (q0 := 0) rfl rfl rfl rfl hl (Nat.le_of_ble_eq_true rfl) dX4_readThing_159 ⟨Nat.le_refl 0, Nat.le_refl 0⟩) (fun H locs w => ?_)
                  refine q_ifz_eq (tgt := 169) C dX4_readThing_162 (by decide) (fun c46 => ?_) (fun c46 => ?_)
                  · have c46 := c46
                    refine q_aload_n C hl dX4_readThing_169 rfl 0 rfl ?_
                    refine q_getM (v := .int (jj (ltr τ le P))) C w.1 (fun w h => List.mem_cons_of_mem _ (List.mem_append_right _ h)) 12 (by decide) (List.mem_of_getElem? (i := 4) rfl) rfl dX4_readThing_170 ?_
                    refine q_bipush C dX4_readThing_173 (by decide) ?_
                    refine q_icmp_ne (tgt := 193) C dX4_readThing_175 (by decide) ⟨by omega, by omega⟩ ⟨by omega, by omega⟩ (fun z => absurd z (by omega)) (fun _ => ?_)
                    refine q_aload_n C hl dX4_readThing_178 rfl 0 rfl ?_
                    refine q_bipush C dX4_readThing_179 (by decide) ?_
                    refine q_bipush C dX4_readThing_181 (by decide) ?_
                    refine q_runi C w fr_all (q_V (As := [.int (jj 62), .int (jj 62)]) (rest := [.ref h]) C w fr_all fX4_isNext gX4_readThing_X4_isNext rfl ⟨Nat.le_of_ble_eq_true rfl, Nat.le_of_ble_eq_true rfl⟩ (kX4_isNext l D cI cC cS h ad σ α ς β τ (up (up (up (up (up (up q 12 (ltr τ le P)) 11 1) 10 (P + 0)) 11 1) 10 ((P + 0) + 0)) 13 (ltr τ le (P + 0) - 48)) ((P + 0) + 0) le 1 62 62 rfl e7 rfl (by omega) (by omega) bt (by omega) (by omega) _) (q0 := 0) rfl rfl rfl rfl hl (Nat.le_of_ble_eq_true rfl) dX4_readThing_183 ⟨Nat.le_refl 0, Nat.le_refl 0⟩) (fun H locs w => ?_)
                    refine q_ifz_eq (tgt := 193) C dX4_readThing_186 (by decide) (fun c48 => ?_) (fun c48 => ?_)
                    · have c48 := c48
                      refine q_iconst C dX4_readThing_193 ?_
                      refine q_putM C w (fun w h => List.mem_cons_of_mem _ (List.mem_append_right _ h)) 14 (by decide) (List.mem_of_getElem? (i := 7) rfl) rfl rfl rfl rfl dX4_readThing_194 (mP14 cI h ad _ _ _ _ _ _ _) (fun H locs w => ?_)
                      refine q_aload_n C hl dX4_readThing_197 rfl 0 rfl ?_
                      refine q_dup C dX4_readThing_198 rfl ?_
                      refine q_getM (v := .int (jj ((P + 0) + 0))) C w.1 (fun w h => List.mem_cons_of_mem _ (List.mem_append_right _ h)) 10 (by decide) (List.mem_of_getElem? (i := 1) rfl) rfl dX4_readThing_199 ?_
                      refine q_aload_n C hl dX4_readThing_202 rfl 0 rfl ?_
                      refine q_getM (v := .int (jj 0)) C w.1 (fun w h => List.mem_cons_of_mem _ (List.mem_append_right _ h)) 14 (by decide) (List.mem_of_getElem? (i := 7) rfl) rfl dX4_readThing_203 ?_
                      refine q_if_le (tgt := 213) C dX4_readThing_206 (by decide) ⟨by omega, by omega⟩ (fun _ => ?_) (fun z => absurd z (by omega))
                      refine q_iconst C dX4_readThing_213 ?_
                      refine q_iadd C dX4_readThing_214 ?_
                      refine q_putM C w (fun w h => List.mem_cons_of_mem _ (List.mem_append_right _ h)) 10 (by decide) (List.mem_of_getElem? (i := 1) rfl) rfl rfl rfl rfl dX4_readThing_215 (mP10 cI h ad _ _ _ _ _ _ _) (fun H locs w => ?_)
                      exact q_vret C w dX4_readThing_218 (by have f1 : tfl τ le P = (((P + 0) + 0) + 0) := (by unfold tfl; split <;> omega); unfold bq; rw [f1]; simp only [Int.add_zero]; refine congrArg (fun z => mW cI h ad σ α ς β τ z) ?_; funext k; simp only [up]; (repeat' split) <;> first | rfl | omega)
                    · exact absurd c48 (by omega)
                  · exact absurd c46 (by omega)
              · have c40 := c40
                refine q_aload_n C hl dX4_readThing_124 rfl 0 rfl ?_
                refine q_iconst C dX4_readThing_125 ?_
                refine q_bipush C dX4_readThing_126 (by decide) ?_
                refine q_runi C w fr_all (q_V (As := [.int (jj 0), .int (jj 15)]) (rest := [.ref h]) C w fr_all fX4_takesNumber gX4_readThing_X4_takesNumber rfl ⟨Nat.le_of_ble_eq_true rfl, Nat.le_of_ble_eq_true rfl⟩ (kX4_takesNumber_bad l D cI cC cS h ad σ α ς β τ (up (up (up q 12 (ltr τ le P)) 11 1) 10 (P + 0)) (P + 0) le 1 0 15 rfl e7 rfl (by omega) (by omega) bt (by omega) (by omega) (by omega) _) (q0 := 0) rfl rfl rfl rfl hl (Nat.le_of_ble_eq_true rfl) dX4_readThing_128 ⟨Nat.le_refl 0, Nat.le_refl 0⟩) (fun H locs w => ?_)
                refine q_goto (tgt := 141) C dX4_readThing_131 (by decide) ?_
                refine q_putM C w (fun w h => List.mem_cons_of_mem _ (List.mem_append_right _ h)) 13 (by decide) (List.mem_of_getElem? (i := 6) rfl) rfl rfl rfl rfl dX4_readThing_141 (mP13 cI h ad _ _ _ _ _ _ _) (fun H locs w => ?_)
                refine q_aload_n C hl dX4_readThing_144 rfl 0 rfl ?_
                refine q_aload_n C hl dX4_readThing_145 rfl 0 rfl ?_
                refine q_getM (v := .int (jj (ltr τ le P))) C w.1 (fun w h => List.mem_cons_of_mem _ (List.mem_append_right _ h)) 12 (by decide) (List.mem_of_getElem? (i := 4) rfl) rfl dX4_readThing_146 ?_
                refine q_bipush C dX4_readThing_149 (by decide) ?_
                refine q_icmp_ne (tgt := 169) C dX4_readThing_151 (by decide) ⟨by omega, by omega⟩ ⟨by omega, by omega⟩ (fun _ => ?_) (fun z => absurd z (by omega))
                refine q_aload_n C hl dX4_readThing_169 rfl 0 rfl ?_
                refine q_getM (v := .int (jj (ltr τ le P))) C w.1 (fun w h => List.mem_cons_of_mem _ (List.mem_append_right _ h)) 12 (by decide) (List.mem_of_getElem? (i := 4) rfl) rfl dX4_readThing_170 ?_
                refine q_bipush C dX4_readThing_173 (by decide) ?_
                refine q_icmp_ne (tgt := 193) C dX4_readThing_175 (by decide) ⟨by omega, by omega⟩ ⟨by omega, by omega⟩ (fun _ => ?_) (fun z => absurd z (by omega))
                refine q_iconst C dX4_readThing_193 ?_
                refine q_putM C w (fun w h => List.mem_cons_of_mem _ (List.mem_append_right _ h)) 14 (by decide) (List.mem_of_getElem? (i := 7) rfl) rfl rfl rfl rfl dX4_readThing_194 (mP14 cI h ad _ _ _ _ _ _ _) (fun H locs w => ?_)
                refine q_aload_n C hl dX4_readThing_197 rfl 0 rfl ?_
                refine q_dup C dX4_readThing_198 rfl ?_
                refine q_getM (v := .int (jj ((P + 0) + 0))) C w.1 (fun w h => List.mem_cons_of_mem _ (List.mem_append_right _ h)) 10 (by decide) (List.mem_of_getElem? (i := 1) rfl) rfl dX4_readThing_199 ?_
                refine q_aload_n C hl dX4_readThing_202 rfl 0 rfl ?_
                refine q_getM (v := .int (jj 0)) C w.1 (fun w h => List.mem_cons_of_mem _ (List.mem_append_right _ h)) 14 (by decide) (List.mem_of_getElem? (i := 7) rfl) rfl dX4_readThing_203 ?_
                refine q_if_le (tgt := 213) C dX4_readThing_206 (by decide) ⟨by omega, by omega⟩ (fun _ => ?_) (fun z => absurd z (by omega))
                refine q_iconst C dX4_readThing_213 ?_
                refine q_iadd C dX4_readThing_214 ?_
                refine q_putM C w (fun w h => List.mem_cons_of_mem _ (List.mem_append_right _ h)) 10 (by decide) (List.mem_of_getElem? (i := 1) rfl) rfl rfl rfl rfl dX4_readThing_215 (mP10 cI h ad _ _ _ _ _ _ _) (fun H locs w => ?_)
                exact q_vret C w dX4_readThing_218 (by have f1 : tfl τ le P = (((P + 0) + 0) + 0) := (by unfold tfl; split <;> omega); unfold bq; rw [f1]; simp only [Int.add_zero]; refine congrArg (fun z => mW cI h ad σ α ς β τ z) ?_; funext k; simp only [up]; (repeat' split) <;> first | rfl | omega)
            · have c39 := c39
              refine q_iconst C dX4_readThing_111 ?_
              refine q_goto (tgt := 141) C dX4_readThing_112 (by decide) ?_
              refine q_putM C w (fun w h => List.mem_cons_of_mem _ (List.mem_append_right _ h)) 13 (by decide) (List.mem_of_getElem? (i := 6) rfl) rfl rfl rfl rfl dX4_readThing_141 (mP13 cI h ad _ _ _ _ _ _ _) (fun H locs w => ?_)
              refine q_aload_n C hl dX4_readThing_144 rfl 0 rfl ?_
              refine q_aload_n C hl dX4_readThing_145 rfl 0 rfl ?_
              refine q_getM (v := .int (jj (ltr τ le P))) C w.1 (fun w h => List.mem_cons_of_mem _ (List.mem_append_right _ h)) 12 (by decide) (List.mem_of_getElem? (i := 4) rfl) rfl dX4_readThing_146 ?_
              refine q_bipush C dX4_readThing_149 (by decide) ?_
              refine q_icmp_ne (tgt := 169) C dX4_readThing_151 (by decide) ⟨by omega, by omega⟩ ⟨by omega, by omega⟩ (fun _ => ?_) (fun z => absurd z (by omega))
              refine q_aload_n C hl dX4_readThing_169 rfl 0 rfl ?_
              refine q_getM (v := .int (jj (ltr τ le P))) C w.1 (fun w h => List.mem_cons_of_mem _ (List.mem_append_right _ h)) 12 (by decide) (List.mem_of_getElem? (i := 4) rfl) rfl dX4_readThing_170 ?_
              refine q_bipush C dX4_readThing_173 (by decide) ?_
              refine q_icmp_ne (tgt := 193) C dX4_readThing_175 (by decide) ⟨by omega, by omega⟩ ⟨by omega, by omega⟩ (fun _ => ?_) (fun z => absurd z (by omega))
              refine q_iconst C dX4_readThing_193 ?_
              refine q_putM C w (fun w h => List.mem_cons_of_mem _ (List.mem_append_right _ h)) 14 (by decide) (List.mem_of_getElem? (i := 7) rfl) rfl rfl rfl rfl dX4_readThing_194 (mP14 cI h ad _ _ _ _ _ _ _) (fun H locs w => ?_)
              refine q_aload_n C hl dX4_readThing_197 rfl 0 rfl ?_
              refine q_dup C dX4_readThing_198 rfl ?_
              refine q_getM (v := .int (jj (P + 0))) C w.1 (fun w h => List.mem_cons_of_mem _ (List.mem_append_right _ h)) 10 (by decide) (List.mem_of_getElem? (i := 1) rfl) rfl dX4_readThing_199 ?_
              refine q_aload_n C hl dX4_readThing_202 rfl 0 rfl ?_
              refine q_getM (v := .int (jj 0)) C w.1 (fun w h => List.mem_cons_of_mem _ (List.mem_append_right _ h)) 14 (by decide) (List.mem_of_getElem? (i := 7) rfl) rfl dX4_readThing_203 ?_
              refine q_if_le (tgt := 213) C dX4_readThing_206 (by decide) ⟨by omega, by omega⟩ (fun _ => ?_) (fun z => absurd z (by omega))
              refine q_iconst C dX4_readThing_213 ?_
              refine q_iadd C dX4_readThing_214 ?_
              refine q_putM C w (fun w h => List.mem_cons_of_mem _ (List.mem_append_right _ h)) 10 (by decide) (List.mem_of_getElem? (i := 1) rfl) rfl rfl rfl rfl dX4_readThing_215 (mP10 cI h ad _ _ _ _ _ _ _) (fun H locs w => ?_)
              exact q_vret C w dX4_readThing_218 (by have f1 : tfl τ le P = ((P + 0) + 0) := (by unfold tfl; split <;> omega); unfold bq; rw [f1]; simp only [Int.add_zero]; refine congrArg (fun z => mW cI h ad σ α ς β τ z) ?_; funext k; simp only [up]; (repeat' split) <;> first | rfl | omega)

def rX4_does : Room := { frames := 8, cells := 0, slots := 0, locals := 181 }
theorem fX4_does : Fc yX4_does wsX4_does rX4_does cX4_does 1 (some .int) 0 := ⟨⟨_, rfl⟩, rfl, rfl, by decide +kernel, by decide +kernel, by decide +kernel⟩
set_option maxHeartbeats 4000000 in
set_option maxRecDepth 10000 in
theorem kX4_does (l : Launch) (D : va_G) (cI cC cS : ClassId) (h : Nat) (ad : Nat → Nat) (σ α ς β τ q : Int → Int) (cL nu sd : Int)  (e12 : q 12 = cL) (e13 : q 13 = nu) (e14 : q 14 = sd) (bY : Iv σ) (bcl : 0 ≤ cL ∧ cL ≤ 65535) (hv : exok cL nu sd) : Ki l yX4_does wsX4_does rX4_does D (tz cI cC cS) [.ref h] (mW cI h ad σ α ς β τ q) (exU σ cL nu sd) (mW cI h ad (exV σ cL nu sd) α ς β τ q) := by
  have hY := bY
  obtain ⟨bW, bE, bP, bc, bN, bU, b1, b9, b10, bv, bf⟩ := bY
  have hn := bW.1
  have hn2 := bW.2.1
  refine q_entry (cc := cX4_does) (nL := 1) (ret := (some .int)) (by decide) ⟨_, rfl⟩ (Nat.le_of_ble_eq_true rfl) ?_
  intro A pr en s m args below meth c C hin w ls hl
  have w := w
  have hl : lv_has ls 1 [(0, .ref h)] := hl
  refine q_aload_n C hl dX4_does_0 rfl 0 rfl ?_
  refine q_getM (v := .int (jj cL)) C w.1 (fun w h => List.mem_cons_of_mem _ (List.mem_append_right _ h)) 12 (by decide) (List.mem_of_getElem? (i := 1) rfl) (gt_v rfl e12) dX4_does_1 ?_
  by_cases c1 : cL = 46
  · refine q_lookIn (v := 46) (off := 49) (tgt := 53) C dX4_does_4 c1 ⟨by omega, by omega⟩ (by decide) (by decide) (by decide) ?_
    refine q_aload_n C hl dX4_does_53 rfl 0 rfl ?_
    refine q_aload_n C hl dX4_does_54 rfl 0 rfl ?_
    refine q_getM (v := .int (jj nu)) C w.1 (fun w h => List.mem_cons_of_mem _ (List.mem_append_right _ h)) 13 (by decide) (List.mem_of_getElem? (i := 2) rfl) (gt_v rfl e13) dX4_does_55 ?_
    refine q_runi C w fr_all (q_V (As := [.int (jj nu)]) (rest := []) C w fr_all fX4_passes gX4_does_X4_passes rfl ⟨Nat.le_of_ble_eq_true rfl, Nat.le_of_ble_eq_true rfl⟩ (kX4_passes l D cI cC cS h ad σ α ς β τ q nu (by omega) bE (by omega) (by omega) (by omega) _) (q0 := 0) rfl rfl rfl rfl hl (Nat.le_of_ble_eq_true rfl) dX4_does_58 ⟨Nat.le_refl 0, Nat.le_refl 0⟩) (fun H locs w => ?_)
    exact q_iret C w dX4_does_61 (by unfold exU; (repeat' split) <;> omega) (by unfold exV; (repeat' split) <;> first | (exfalso; omega) | rfl)
  by_cases c2 : cL = 99
  · refine q_lookIn (v := 99) (off := 58) (tgt := 62) C dX4_does_4 c2 ⟨by omega, by omega⟩ (by decide) (by decide) (by decide) ?_
    refine q_aload_n C hl dX4_does_62 rfl 0 rfl ?_
    refine q_runi C w fr_all (q_V (As := []) (rest := []) C w fr_all fX4_serves gX4_does_X4_serves rfl ⟨Nat.le_of_ble_eq_true rfl, Nat.le_of_ble_eq_true rfl⟩ (kX4_serves l D cI cC cS h ad σ α ς β τ q  (by omega) (by omega) (by omega) bE bc _) (q0 := 0) rfl rfl rfl rfl hl (Nat.le_of_ble_eq_true rfl) dX4_does_63 ⟨Nat.le_refl 0, Nat.le_refl 0⟩) (fun H locs w => ?_)
    exact q_iret C w dX4_does_66 (by unfold exU; (repeat' split) <;> omega) (by unfold exV; (repeat' split) <;> first | (exfalso; omega) | rfl)
  by_cases c3 : cL = 103
  · refine q_lookIn (v := 103) (off := 36) (tgt := 40) C dX4_does_4 c3 ⟨by omega, by omega⟩ (by decide) (by decide) (by decide) ?_
    refine q_aload_n C hl dX4_does_40 rfl 0 rfl ?_
    refine q_aload_n C hl dX4_does_41 rfl 0 rfl ?_
    refine q_getM (v := .int (jj nu)) C w.1 (fun w h => List.mem_cons_of_mem _ (List.mem_append_right _ h)) 13 (by decide) (List.mem_of_getElem? (i := 2) rfl) (gt_v rfl e13) dX4_does_42 ?_
    refine q_aload_n C hl dX4_does_45 rfl 0 rfl ?_
    refine q_getM (v := .int (jj sd)) C w.1 (fun w h => List.mem_cons_of_mem _ (List.mem_append_right _ h)) 14 (by decide) (List.mem_of_getElem? (i := 3) rfl) (gt_v rfl e14) dX4_does_46 ?_
    refine q_runi C w fr_all (q_V (As := [.int (jj nu), .int (jj sd)]) (rest := []) C w fr_all fX4_gusts gX4_does_X4_gusts rfl ⟨Nat.le_of_ble_eq_true rfl, Nat.le_of_ble_eq_true rfl⟩ (kX4_gusts l D cI cC cS h ad σ α ς β τ q nu sd bW bE bP (by omega) (by omega) _) (q0 := 0) rfl rfl rfl rfl hl (Nat.le_of_ble_eq_true rfl) dX4_does_49 ⟨Nat.le_refl 0, Nat.le_refl 0⟩) (fun H locs w => ?_)
    exact q_iret C w dX4_does_52 (by unfold exU; (repeat' split) <;> omega) (by unfold exV; (repeat' split) <;> first | (exfalso; omega) | rfl)
  refine lv_lookup (tgt := 67) (off := 63) C.1 C.2.1 dX4_does_4 (by decide) (by rw [jj_toInt (by omega) (by omega)]; simp [Op.lookupswitch.offset, Ne.symm c1, Ne.symm c2, Ne.symm c3, c1, c2, c3]) (by decide) ?_
  refine q_aload_n C hl dX4_does_67 rfl 0 rfl ?_
  refine q_aload_n C hl dX4_does_68 rfl 0 rfl ?_
  refine q_getM (v := .int (jj nu)) C w.1 (fun w h => List.mem_cons_of_mem _ (List.mem_append_right _ h)) 13 (by decide) (List.mem_of_getElem? (i := 2) rfl) (gt_v rfl e13) dX4_does_69 ?_
  refine q_runi C w fr_all (q_V (As := [.int (jj nu)]) (rest := []) C w fr_all fX4_swaps gX4_does_X4_swaps rfl ⟨Nat.le_of_ble_eq_true rfl, Nat.le_of_ble_eq_true rfl⟩ (kX4_swaps l D cI cC cS h ad σ α ς β τ q nu ⟨by omega, by omega⟩ bW bE _) (q0 := 0) rfl rfl rfl rfl hl (Nat.le_of_ble_eq_true rfl) dX4_does_72 ⟨Nat.le_refl 0, Nat.le_refl 0⟩) (fun H locs w => ?_)
  exact q_iret C w dX4_does_75 (by unfold exU; (repeat' split) <;> omega) (by unfold exV; (repeat' split) <;> first | (exfalso; omega) | rfl)
