def rX4_runs : Room := { frames := 9, cells := 0, slots := 0, locals := 201 }
theorem fX4_runs : Fc yX4_runs wsX4_runs rX4_runs cX4_runs 6 (some .int) 1 := ⟨⟨_, rfl⟩, rfl, rfl, by decide +kernel, by decide +kernel, by decide +kernel⟩
set_option maxHeartbeats 4000000 in
set_option maxRecDepth 10000 in
theorem kX4_runs0_ok (l : Launch) (D : va_G) (cI cC cS : ClassId) (h : Nat) (ad : Nat → Nat) (σ α ς β τ q : Int → Int) (le : Int) (dn : Int) (e7 : q 7 = le) (hdn : dn = 0) (ble : 0 ≤ le ∧ le ≤ 60) (bt : ∀ x : Int, 0 ≤ x → x < le → 0 ≤ τ x ∧ τ x ≤ 65535) (hw : wok τ le) : Ki l yX4_runs wsX4_runs rX4_runs D (tz cI cC cS) [.ref h, .int (jj dn)] (mW cI h ad σ α ς β τ q) ((fin τ le).2 + 1) (mW cI h ad σ α ς β τ (up (rq τ q le (fin τ le).1) 15 0)) := by
  refine q_entry (cc := cX4_runs) (nL := 6) (ret := (some .int)) (by decide) ⟨_, rfl⟩ (Nat.le_of_ble_eq_true rfl) ?_
  intro A pr en s m args below meth c C hin w ls hl
  have w := w
  have hl : lv_has ls 6 [(0, .ref h), (1, .int (jj dn))] := hl
  refine q_aload_n C hl dX4_runs_0 rfl 0 rfl ?_
  refine q_iconst C dX4_runs_1 ?_
  refine q_putM C w (fun w h => List.mem_cons_of_mem _ (List.mem_append_right _ h)) 10 (by decide) (List.mem_of_getElem? (i := 1) rfl) rfl rfl rfl rfl dX4_runs_2 (mP10 cI h ad _ _ _ _ _ _ _) (fun H locs w => ?_)
  refine q_aload_n C hl dX4_runs_5 rfl 0 rfl ?_
  refine q_iconst C dX4_runs_6 ?_
  refine q_putM C w (fun w h => List.mem_cons_of_mem _ (List.mem_append_right _ h)) 11 (by decide) (List.mem_of_getElem? (i := 2) rfl) rfl rfl (nar_b (by omega)) rfl dX4_runs_7 (mP11 cI h ad _ _ _ _ _ _ _) (fun H locs w => ?_)
  refine q_aload_n C hl dX4_runs_10 rfl 0 rfl ?_
  refine q_iconst C dX4_runs_11 ?_
  refine q_putM C w (fun w h => List.mem_cons_of_mem _ (List.mem_append_right _ h)) 15 (by decide) (List.mem_of_getElem? (i := 3) rfl) rfl rfl rfl rfl dX4_runs_12 (mP15 cI h ad _ _ _ _ _ _ _) (fun H locs w => ?_)
  refine q_iconst C dX4_runs_15 ?_
  refine q_istore_n (lv' := [(2, .int (jj 0)), (0, .ref h), (1, .int (jj dn))]) C hl dX4_runs_16 rfl (by decide) rfl (fun ls hl => ?_)
  refine q_iconst C dX4_runs_17 ?_
  refine q_istore_n (lv' := [(3, .int (jj 1)), (2, .int (jj 0)), (0, .ref h), (1, .int (jj dn))]) C hl dX4_runs_18 rfl (by decide) rfl (fun ls hl => ?_)
  refine q_iload_n C hl dX4_runs_19 rfl 0 rfl ?_
  refine q_if_eq (tgt := 146) C dX4_runs_20 (by decide) ⟨by omega, by omega⟩ (fun z => absurd z (by omega)) (fun _ => ?_)
  have loop23 : ∀ (n23 : Nat) (n : Int) (P : Int) (qc : Int → Int), (0 ≤ n ∧ n ≤ 39) → ((P, n) = itp τ le n) → (2 * n ≤ P ∧ P ≤ le) → (qc 10 = P) → (qc 11 = 0) → (qc 7 = le) → (∀ j : Int, (j < 10 ∨ 15 < j) → qc j = q j) → (le - P + 1).toNat < n23 → ∀ (H : Heap) (locs : List Loc), Wd D A s (mW cI h ad σ α ς β τ qc) H locs → ∀ ls : Array Slot, lv_has ls 6 [(0, .ref h), (1, .int (jj dn)), (2, .int (jj n)), (3, .int (jj 1))] → W pr l en rX4_runs s m args below meth c H locs 0 0 (MQ below (Qi D (tz cI cC cS) ((fin τ le).2 + 1) (mW cI h ad σ α ς β τ (up (rq τ q le (fin τ le).1) 15 0)) A) args s 0 0 A) (F0 m 23 ls []) := by
    intro n23
    induction n23 with
    | zero => intro n P qc hn0 hit hP hq10 hq11 hq7 hfr hm; exact absurd hm (Nat.not_lt_zero _)
    | succ n23 ih23 =>
      intro n P qc hn0 hit hP hq10 hq11 hq7 hfr hm23 H locs w ls hl
      have hw2 := wok_at hw hn0.1 (by omega) hit
      have ht := ten_b hw2.1
      refine q_aload_n C hl dX4_runs_23 rfl 0 rfl ?_
      refine q_runv C w fr_all (q_V (As := []) (rest := []) C w fr_all fX4_readThing gX4_runs_X4_readThing rfl ⟨Nat.le_of_ble_eq_true rfl, Nat.le_of_ble_eq_true rfl⟩ (kX4_readThing_ok l D cI cC cS h ad σ α ς β τ qc P le hq10 hq7 hq11 (by omega) (by omega) bt hw2.1 _) (q0 := 0) rfl rfl rfl rfl hl (Nat.le_of_ble_eq_true rfl) dX4_runs_24 ⟨Nat.le_refl 0, Nat.le_refl 0⟩) (fun H locs w => ?_)
      refine q_iload_n C hl dX4_runs_27 rfl 1 rfl ?_
      refine q_if_eq (tgt := 38) C dX4_runs_28 (by decide) ⟨by omega, by omega⟩ (fun c2 => ?_) (fun c2 => ?_)
      · have c2 := c2
        refine q_iconst C dX4_runs_38 ?_
        refine q_istore (lv' := [(4, .int (jj 0)), (0, .ref h), (1, .int (jj dn)), (2, .int (jj n)), (3, .int (jj 1))]) C hl dX4_runs_39 (by decide) rfl (fun ls hl => ?_)
        refine q_aload_n C hl dX4_runs_41 rfl 1 rfl ?_
        refine q_iload C hl dX4_runs_42 0 rfl ?_
        refine q_if_ge (tgt := 66) C dX4_runs_44 (by decide) ⟨by omega, by omega⟩ (fun _ => ?_) (fun z => absurd z (by omega))
        refine q_iconst C dX4_runs_66 ?_
        refine q_putM C w (fun w h => List.mem_cons_of_mem _ (List.mem_append_right _ h)) 15 (by decide) (List.mem_of_getElem? (i := 3) rfl) rfl rfl rfl rfl dX4_runs_67 (mP15 cI h ad _ _ _ _ _ _ _) (fun H locs w => ?_)
        refine q_iload_n C hl dX4_runs_70 rfl 3 rfl ?_
        refine q_aload_n C hl dX4_runs_71 rfl 1 rfl ?_
        refine q_getM (v := .int (jj 0)) C w.1 (fun w h => List.mem_cons_of_mem _ (List.mem_append_right _ h)) 15 (by decide) (List.mem_of_getElem? (i := 3) rfl) rfl dX4_runs_72 ?_
        refine q_if_ge (tgt := 82) C dX4_runs_75 (by decide) ⟨by omega, by omega⟩ (fun _ => ?_) (fun z => absurd z (by omega))
        refine q_iconst C dX4_runs_82 ?_
        refine q_iadd C dX4_runs_83 ?_
        refine q_istore_n (lv' := [(2, .int (jj (n + 1))), (4, .int (jj 0)), (0, .ref h), (1, .int (jj dn)), (3, .int (jj 1))]) C hl dX4_runs_84 rfl (by decide) rfl (fun ls hl => ?_)
        refine q_aload_n C hl dX4_runs_85 rfl 2 rfl ?_
        refine q_getM (v := .int (jj 0)) C w.1 (fun w h => List.mem_cons_of_mem _ (List.mem_append_right _ h)) 15 (by decide) (List.mem_of_getElem? (i := 3) rfl) rfl dX4_runs_86 ?_
        refine q_if_ne (tgt := 114) C dX4_runs_89 (by decide) ⟨by omega, by omega⟩ (fun z => absurd z (by omega)) (fun _ => ?_)
        refine q_aload_n C hl dX4_runs_92 rfl 2 rfl ?_
        refine q_getM (v := .int (jj 0)) C w.1 (fun w h => List.mem_cons_of_mem _ (List.mem_append_right _ h)) 11 (by decide) (List.mem_of_getElem? (i := 2) rfl) rfl dX4_runs_93 ?_
        refine q_if_ne (tgt := 114) C dX4_runs_96 (by decide) ⟨by omega, by omega⟩ (fun z => absurd z (by omega)) (fun _ => ?_)
        refine q_aload_n C hl dX4_runs_99 rfl 2 rfl ?_
        refine q_getM (v := .int (jj (ten τ le P))) C w.1 (fun w h => List.mem_cons_of_mem _ (List.mem_append_right _ h)) 10 (by decide) (List.mem_of_getElem? (i := 1) rfl) rfl dX4_runs_100 ?_
        refine q_aload_n C hl dX4_runs_103 rfl 2 rfl ?_
        refine q_getM (v := .int (jj le)) C w.1 (fun w h => List.mem_cons_of_mem _ (List.mem_append_right _ h)) 7 (by decide) (List.mem_of_getElem? (i := 4) rfl) (gt_v rfl hq7) dX4_runs_104 ?_
        refine q_icmp_ge (tgt := 114) C dX4_runs_107 (by decide) ⟨by omega, by omega⟩ ⟨by omega, by omega⟩ (fun c7 => ?_) (fun c7 => ?_)
        · have c7 := c7
          refine q_iconst C dX4_runs_114 ?_
          refine q_istore_n (lv' := [(3, .int (jj 0)), (2, .int (jj (n + 1))), (4, .int (jj 0)), (0, .ref h), (1, .int (jj dn))]) C hl dX4_runs_115 rfl (by decide) rfl (fun ls hl => ?_)
          refine q_iload_n C hl dX4_runs_116 rfl 0 rfl ?_
          refine q_if_eq (tgt := 143) C dX4_runs_117 (by decide) ⟨by omega, by omega⟩ (fun _ => ?_) (fun z => absurd z (by omega))
          refine q_goto (tgt := 19) C dX4_runs_143 (by decide) ?_
          refine q_iload_n C hl dX4_runs_19 rfl 0 rfl ?_
          refine q_if_eq (tgt := 146) C dX4_runs_20 (by decide) ⟨by omega, by omega⟩ (fun _ => ?_) (fun z => absurd z (by omega))
          refine q_iload_n C hl dX4_runs_146 rfl 1 rfl ?_
          exact q_iret C w dX4_runs_147 (by rw [fin_at hn0.1 (by omega) hit (by omega)]) (by rw [fin_at hn0.1 (by omega) hit (by omega)]; refine congrArg (fun z => mW cI h ad σ α ς β τ z) ?_; funext k; simp only [rq, bq, up]; (repeat' split) <;> first | rfl | omega | exact hfr k (by omega))
        · have c7 := c7
          refine q_iconst C dX4_runs_110 ?_
          refine q_goto (tgt := 115) C dX4_runs_111 (by decide) ?_
          refine q_istore_n (lv' := [(3, .int (jj 1)), (2, .int (jj (n + 1))), (4, .int (jj 0)), (0, .ref h), (1, .int (jj dn))]) C hl dX4_runs_115 rfl (by decide) rfl (fun ls hl => ?_)
          refine q_iload_n C hl dX4_runs_116 rfl 0 rfl ?_
          refine q_if_eq (tgt := 143) C dX4_runs_117 (by decide) ⟨by omega, by omega⟩ (fun z => absurd z (by omega)) (fun _ => ?_)
          have hcn := hw2.2 (by omega)
          have el := ltr_in (τ := τ) (le := le) (P := ten τ le P) (by omega)
          refine q_aload_n C hl dX4_runs_120 rfl 3 rfl ?_
          refine q_bipush C dX4_runs_121 (by decide) ?_
          refine q_bipush C dX4_runs_123 (by decide) ?_
          refine q_runi C w fr_all (q_V (As := [.int (jj 59), .int (jj 59)]) (rest := []) C w fr_all fX4_takes gX4_runs_X4_takes rfl ⟨Nat.le_of_ble_eq_true rfl, Nat.le_of_ble_eq_true rfl⟩ (kX4_takes_ok l D cI cC cS h ad σ α ς β τ (up (rq τ qc le P) 15 0) (ten τ le P) le 59 59 rfl hq7 rfl (by omega) (by omega) bt (by omega) (by omega) _) (q0 := 0) rfl rfl rfl rfl hl (Nat.le_of_ble_eq_true rfl) dX4_runs_125 ⟨Nat.le_refl 0, Nat.le_refl 0⟩) (fun H locs w => ?_)
          refine q_istore (lv' := [(5, .int (jj (ltr τ le (ten τ le P) - 59))), (3, .int (jj 1)), (2, .int (jj (n + 1))), (4, .int (jj 0)), (0, .ref h), (1, .int (jj dn))]) C hl dX4_runs_128 (by decide) rfl (fun ls hl => ?_)
          refine q_aload_n C hl dX4_runs_130 rfl 4 rfl ?_
          refine q_getM (v := .int (jj 0)) C w.1 (fun w h => List.mem_cons_of_mem _ (List.mem_append_right _ h)) 11 (by decide) (List.mem_of_getElem? (i := 2) rfl) rfl dX4_runs_131 ?_
          refine q_if_ne (tgt := 141) C dX4_runs_134 (by decide) ⟨by omega, by omega⟩ (fun z => absurd z (by omega)) (fun _ => ?_)
          refine q_iconst C dX4_runs_137 ?_
          refine q_goto (tgt := 142) C dX4_runs_138 (by decide) ?_
          refine q_istore_n (lv' := [(3, .int (jj 1)), (5, .int (jj (ltr τ le (ten τ le P) - 59))), (2, .int (jj (n + 1))), (4, .int (jj 0)), (0, .ref h), (1, .int (jj dn))]) C hl dX4_runs_142 rfl (by decide) rfl (fun ls hl => ?_)
          refine q_goto (tgt := 19) C dX4_runs_143 (by decide) ?_
          refine q_iload_n C hl dX4_runs_19 rfl 0 rfl ?_
          refine q_if_eq (tgt := 146) C dX4_runs_20 (by decide) ⟨by omega, by omega⟩ (fun z => absurd z (by omega)) (fun _ => ?_)
          exact ih23 (n + 1) (ten τ le P + 1) (up (up (up (rq τ qc le P) 15 0) 11 0) 10 ((ten τ le P) + 1)) (by omega) (itp_go hn0.1 hit hcn) (by omega) rfl rfl hq7 (fun j hj => by rw [← hfr j hj]; simp only [rq, up]; (repeat' split) <;> first | rfl | omega) (by omega) _ _ w ls (lv_sub hl [4, 5, 2, 0] rfl)
      · exact absurd hdn c2
  exact loop23 _ 0 0 (up (up (up q 10 0) 11 0) 15 0) (by omega) rfl (by omega) rfl rfl e7 (fun j hj => by simp only [up]; (repeat' split) <;> first | rfl | omega) (Nat.lt_succ_self _) _ _ w ls (lv_sub hl [2, 3, 1, 0] rfl)

set_option maxHeartbeats 4000000 in
set_option maxRecDepth 10000 in
theorem kX4_runs0_bad (l : Launch) (D : va_G) (cI cC cS : ClassId) (h : Nat) (ad : Nat → Nat) (σ α ς β τ q : Int → Int) (le : Int) (dn : Int) (e7 : q 7 = le) (hdn : dn = 0) (ble : 0 ≤ le ∧ le ≤ 60) (bt : ∀ x : Int, 0 ≤ x → x < le → 0 ≤ τ x ∧ τ x ≤ 65535) (hw : ¬ wok τ le) : Ki l yX4_runs wsX4_runs rX4_runs D (tz cI cC cS) [.ref h, .int (jj dn)] (mW cI h ad σ α ς β τ q) ((fin τ le).2 + 1) (mW cI h ad σ α ς β τ (up (up (bx τ q le) 11 1) 10 (flt τ le))) := by
  refine q_entry (cc := cX4_runs) (nL := 6) (ret := (some .int)) (by decide) ⟨_, rfl⟩ (Nat.le_of_ble_eq_true rfl) ?_
  intro A pr en s m args below meth c C hin w ls hl
  have w := w
  have hl : lv_has ls 6 [(0, .ref h), (1, .int (jj dn))] := hl
  refine q_aload_n C hl dX4_runs_0 rfl 0 rfl ?_
  refine q_iconst C dX4_runs_1 ?_
  refine q_putM C w (fun w h => List.mem_cons_of_mem _ (List.mem_append_right _ h)) 10 (by decide) (List.mem_of_getElem? (i := 1) rfl) rfl rfl rfl rfl dX4_runs_2 (mP10 cI h ad _ _ _ _ _ _ _) (fun H locs w => ?_)
  refine q_aload_n C hl dX4_runs_5 rfl 0 rfl ?_
  refine q_iconst C dX4_runs_6 ?_
  refine q_putM C w (fun w h => List.mem_cons_of_mem _ (List.mem_append_right _ h)) 11 (by decide) (List.mem_of_getElem? (i := 2) rfl) rfl rfl (nar_b (by omega)) rfl dX4_runs_7 (mP11 cI h ad _ _ _ _ _ _ _) (fun H locs w => ?_)
  refine q_aload_n C hl dX4_runs_10 rfl 0 rfl ?_
  refine q_iconst C dX4_runs_11 ?_
  refine q_putM C w (fun w h => List.mem_cons_of_mem _ (List.mem_append_right _ h)) 15 (by decide) (List.mem_of_getElem? (i := 3) rfl) rfl rfl rfl rfl dX4_runs_12 (mP15 cI h ad _ _ _ _ _ _ _) (fun H locs w => ?_)
  refine q_iconst C dX4_runs_15 ?_
  refine q_istore_n (lv' := [(2, .int (jj 0)), (0, .ref h), (1, .int (jj dn))]) C hl dX4_runs_16 rfl (by decide) rfl (fun ls hl => ?_)
  refine q_iconst C dX4_runs_17 ?_
  refine q_istore_n (lv' := [(3, .int (jj 1)), (2, .int (jj 0)), (0, .ref h), (1, .int (jj dn))]) C hl dX4_runs_18 rfl (by decide) rfl (fun ls hl => ?_)
  refine q_iload_n C hl dX4_runs_19 rfl 0 rfl ?_
  refine q_if_eq (tgt := 146) C dX4_runs_20 (by decide) ⟨by omega, by omega⟩ (fun z => absurd z (by omega)) (fun _ => ?_)
  have loop23 : ∀ (n23 : Nat) (n : Int) (P : Int) (qc : Int → Int), (0 ≤ n ∧ n ≤ 39) → ((P, n) = itp τ le n) → (2 * n ≤ P ∧ P ≤ le) → (qc 10 = P) → (qc 11 = 0) → (qc 7 = le) → (∀ j : Int, (j < 10 ∨ 15 < j) → qc j = q j) → (le - P + 1).toNat < n23 → ∀ (H : Heap) (locs : List Loc), Wd D A s (mW cI h ad σ α ς β τ qc) H locs → ∀ ls : Array Slot, lv_has ls 6 [(0, .ref h), (1, .int (jj dn)), (2, .int (jj n)), (3, .int (jj 1))] → W pr l en rX4_runs s m args below meth c H locs 0 0 (MQ below (Qi D (tz cI cC cS) ((fin τ le).2 + 1) (mW cI h ad σ α ς β τ (up (up (bx τ q le) 11 1) 10 (flt τ le))) A) args s 0 0 A) (F0 m 23 ls []) := by
    intro n23
    induction n23 with
    | zero => intro n P qc hn0 hit hP hq10 hq11 hq7 hfr hm; exact absurd hm (Nat.not_lt_zero _)
    | succ n23 ih23 =>
      intro n P qc hn0 hit hP hq10 hq11 hq7 hfr hm23 H locs w ls hl
      refine q_aload_n C hl dX4_runs_23 rfl 0 rfl ?_
      by_cases c2 : tok τ le P
      · have c2 := c2
        refine q_runv C w fr_all (q_V (As := []) (rest := []) C w fr_all fX4_readThing gX4_runs_X4_readThing rfl ⟨Nat.le_of_ble_eq_true rfl, Nat.le_of_ble_eq_true rfl⟩ (kX4_readThing_ok l D cI cC cS h ad σ α ς β τ qc P le hq10 hq7 hq11 (by omega) (by omega) bt (by omega) _) (q0 := 0) rfl rfl rfl rfl hl (Nat.le_of_ble_eq_true rfl) dX4_runs_24 ⟨Nat.le_refl 0, Nat.le_refl 0⟩) (fun H locs w => ?_)
        have ht := ten_b (τ := τ) (le := le) (P := P) (by assumption)
        refine q_iload_n C hl dX4_runs_27 rfl 1 rfl ?_
        refine q_if_eq (tgt := 38) C dX4_runs_28 (by decide) ⟨by omega, by omega⟩ (fun c3 => ?_) (fun c3 => ?_)
        · have c3 := c3
          refine q_iconst C dX4_runs_38 ?_
          refine q_istore (lv' := [(4, .int (jj 0)), (0, .ref h), (1, .int (jj dn)), (2, .int (jj n)), (3, .int (jj 1))]) C hl dX4_runs_39 (by decide) rfl (fun ls hl => ?_)
          refine q_aload_n C hl dX4_runs_41 rfl 1 rfl ?_
          refine q_iload C hl dX4_runs_42 0 rfl ?_
          refine q_if_ge (tgt := 66) C dX4_runs_44 (by decide) ⟨by omega, by omega⟩ (fun _ => ?_) (fun z => absurd z (by omega))
          refine q_iconst C dX4_runs_66 ?_
          refine q_putM C w (fun w h => List.mem_cons_of_mem _ (List.mem_append_right _ h)) 15 (by decide) (List.mem_of_getElem? (i := 3) rfl) rfl rfl rfl rfl dX4_runs_67 (mP15 cI h ad _ _ _ _ _ _ _) (fun H locs w => ?_)
          refine q_iload_n C hl dX4_runs_70 rfl 3 rfl ?_
          refine q_aload_n C hl dX4_runs_71 rfl 1 rfl ?_
          refine q_getM (v := .int (jj 0)) C w.1 (fun w h => List.mem_cons_of_mem _ (List.mem_append_right _ h)) 15 (by decide) (List.mem_of_getElem? (i := 3) rfl) rfl dX4_runs_72 ?_
          refine q_if_ge (tgt := 82) C dX4_runs_75 (by decide) ⟨by omega, by omega⟩ (fun _ => ?_) (fun z => absurd z (by omega))
          refine q_iconst C dX4_runs_82 ?_
          refine q_iadd C dX4_runs_83 ?_
          refine q_istore_n (lv' := [(2, .int (jj (n + 1))), (4, .int (jj 0)), (0, .ref h), (1, .int (jj dn)), (3, .int (jj 1))]) C hl dX4_runs_84 rfl (by decide) rfl (fun ls hl => ?_)
          refine q_aload_n C hl dX4_runs_85 rfl 2 rfl ?_
          refine q_getM (v := .int (jj 0)) C w.1 (fun w h => List.mem_cons_of_mem _ (List.mem_append_right _ h)) 15 (by decide) (List.mem_of_getElem? (i := 3) rfl) rfl dX4_runs_86 ?_
          refine q_if_ne (tgt := 114) C dX4_runs_89 (by decide) ⟨by omega, by omega⟩ (fun z => absurd z (by omega)) (fun _ => ?_)
          refine q_aload_n C hl dX4_runs_92 rfl 2 rfl ?_
          refine q_getM (v := .int (jj 0)) C w.1 (fun w h => List.mem_cons_of_mem _ (List.mem_append_right _ h)) 11 (by decide) (List.mem_of_getElem? (i := 2) rfl) rfl dX4_runs_93 ?_
          refine q_if_ne (tgt := 114) C dX4_runs_96 (by decide) ⟨by omega, by omega⟩ (fun z => absurd z (by omega)) (fun _ => ?_)
          refine q_aload_n C hl dX4_runs_99 rfl 2 rfl ?_
          refine q_getM (v := .int (jj (ten τ le P))) C w.1 (fun w h => List.mem_cons_of_mem _ (List.mem_append_right _ h)) 10 (by decide) (List.mem_of_getElem? (i := 1) rfl) rfl dX4_runs_100 ?_
          refine q_aload_n C hl dX4_runs_103 rfl 2 rfl ?_
          refine q_getM (v := .int (jj le)) C w.1 (fun w h => List.mem_cons_of_mem _ (List.mem_append_right _ h)) 7 (by decide) (List.mem_of_getElem? (i := 4) rfl) (gt_v rfl hq7) dX4_runs_104 ?_
          refine q_icmp_ge (tgt := 114) C dX4_runs_107 (by decide) ⟨by omega, by omega⟩ ⟨by omega, by omega⟩ (fun c8 => ?_) (fun c8 => ?_)
          · exact absurd (show tok τ le (fin τ le).1 ∧ le ≤ ten τ le (fin τ le).1 by rw [fin_at hn0.1 (by omega) hit (by omega)]; exact ⟨(show tok τ le P by assumption), c8⟩) hw
          · have c8 := c8
            refine q_iconst C dX4_runs_110 ?_
            refine q_goto (tgt := 115) C dX4_runs_111 (by decide) ?_
            refine q_istore_n (lv' := [(3, .int (jj 1)), (2, .int (jj (n + 1))), (4, .int (jj 0)), (0, .ref h), (1, .int (jj dn))]) C hl dX4_runs_115 rfl (by decide) rfl (fun ls hl => ?_)
            refine q_iload_n C hl dX4_runs_116 rfl 0 rfl ?_
            refine q_if_eq (tgt := 143) C dX4_runs_117 (by decide) ⟨by omega, by omega⟩ (fun z => absurd z (by omega)) (fun _ => ?_)
            have el := ltr_in (τ := τ) (le := le) (P := ten τ le P) (by omega)
            refine q_aload_n C hl dX4_runs_120 rfl 3 rfl ?_
            refine q_bipush C dX4_runs_121 (by decide) ?_
            refine q_bipush C dX4_runs_123 (by decide) ?_
            by_cases c10 : τ (ten τ le P) = 59
            · have c10 := c10
              refine q_runi C w fr_all (q_V (As := [.int (jj 59), .int (jj 59)]) (rest := []) C w fr_all fX4_takes gX4_runs_X4_takes rfl ⟨Nat.le_of_ble_eq_true rfl, Nat.le_of_ble_eq_true rfl⟩ (kX4_takes_ok l D cI cC cS h ad σ α ς β τ (up (rq τ qc le P) 15 0) (ten τ le P) le 59 59 rfl hq7 rfl (by omega) (by omega) bt (by omega) (by omega) _) (q0 := 0) rfl rfl rfl rfl hl (Nat.le_of_ble_eq_true rfl) dX4_runs_125 ⟨Nat.le_refl 0, Nat.le_refl 0⟩) (fun H locs w => ?_)
              refine q_istore (lv' := [(5, .int (jj (ltr τ le (ten τ le P) - 59))), (3, .int (jj 1)), (2, .int (jj (n + 1))), (4, .int (jj 0)), (0, .ref h), (1, .int (jj dn))]) C hl dX4_runs_128 (by decide) rfl (fun ls hl => ?_)
              refine q_aload_n C hl dX4_runs_130 rfl 4 rfl ?_
              refine q_getM (v := .int (jj 0)) C w.1 (fun w h => List.mem_cons_of_mem _ (List.mem_append_right _ h)) 11 (by decide) (List.mem_of_getElem? (i := 2) rfl) rfl dX4_runs_131 ?_
              refine q_if_ne (tgt := 141) C dX4_runs_134 (by decide) ⟨by omega, by omega⟩ (fun z => absurd z (by omega)) (fun _ => ?_)
              refine q_iconst C dX4_runs_137 ?_
              refine q_goto (tgt := 142) C dX4_runs_138 (by decide) ?_
              refine q_istore_n (lv' := [(3, .int (jj 1)), (5, .int (jj (ltr τ le (ten τ le P) - 59))), (2, .int (jj (n + 1))), (4, .int (jj 0)), (0, .ref h), (1, .int (jj dn))]) C hl dX4_runs_142 rfl (by decide) rfl (fun ls hl => ?_)
              refine q_goto (tgt := 19) C dX4_runs_143 (by decide) ?_
              refine q_iload_n C hl dX4_runs_19 rfl 0 rfl ?_
              refine q_if_eq (tgt := 146) C dX4_runs_20 (by decide) ⟨by omega, by omega⟩ (fun z => absurd z (by omega)) (fun _ => ?_)
              exact ih23 (n + 1) (ten τ le P + 1) (up (up (up (rq τ qc le P) 15 0) 11 0) 10 ((ten τ le P) + 1)) (by omega) (itp_go hn0.1 hit (by omega)) (by omega) rfl rfl hq7 (fun j hj => by rw [← hfr j hj]; simp only [rq, up]; (repeat' split) <;> first | rfl | omega) (by omega) _ _ w ls (lv_sub hl [4, 5, 2, 0] rfl)
            · have c10 := c10
              refine q_runi C w fr_all (q_V (As := [.int (jj 59), .int (jj 59)]) (rest := []) C w fr_all fX4_takes gX4_runs_X4_takes rfl ⟨Nat.le_of_ble_eq_true rfl, Nat.le_of_ble_eq_true rfl⟩ (kX4_takes_bad l D cI cC cS h ad σ α ς β τ (up (rq τ qc le P) 15 0) (ten τ le P) le 0 59 59 rfl hq7 rfl (by omega) (by omega) bt (by omega) (by omega) (by omega) _) (q0 := 0) rfl rfl rfl rfl hl (Nat.le_of_ble_eq_true rfl) dX4_runs_125 ⟨Nat.le_refl 0, Nat.le_refl 0⟩) (fun H locs w => ?_)
              refine q_istore (lv' := [(5, .int (jj (ltr τ le (ten τ le P) - 59))), (3, .int (jj 1)), (2, .int (jj (n + 1))), (4, .int (jj 0)), (0, .ref h), (1, .int (jj dn))]) C hl dX4_runs_128 (by decide) rfl (fun ls hl => ?_)
              refine q_aload_n C hl dX4_runs_130 rfl 4 rfl ?_
              refine q_getM (v := .int (jj 1)) C w.1 (fun w h => List.mem_cons_of_mem _ (List.mem_append_right _ h)) 11 (by decide) (List.mem_of_getElem? (i := 2) rfl) rfl dX4_runs_131 ?_
              refine q_if_ne (tgt := 141) C dX4_runs_134 (by decide) ⟨by omega, by omega⟩ (fun _ => ?_) (fun z => absurd z (by omega))
              refine q_iconst C dX4_runs_141 ?_
              refine q_istore_n (lv' := [(3, .int (jj 0)), (5, .int (jj (ltr τ le (ten τ le P) - 59))), (2, .int (jj (n + 1))), (4, .int (jj 0)), (0, .ref h), (1, .int (jj dn))]) C hl dX4_runs_142 rfl (by decide) rfl (fun ls hl => ?_)
              refine q_goto (tgt := 19) C dX4_runs_143 (by decide) ?_
              refine q_iload_n C hl dX4_runs_19 rfl 0 rfl ?_
              refine q_if_eq (tgt := 146) C dX4_runs_20 (by decide) ⟨by omega, by omega⟩ (fun _ => ?_) (fun z => absurd z (by omega))
              refine q_iload_n C hl dX4_runs_146 rfl 2 rfl ?_
              exact q_iret C w dX4_runs_147 (by rw [fin_at hn0.1 (by omega) hit (by omega)]) (by have hf := fin_at hn0.1 (by omega) hit (by omega); have ef : flt τ le = ten τ le P := (by unfold flt; rw [hf]; exact if_pos (by assumption)); have eb : bx τ q le = up (rq τ q le P) 15 0 := (by unfold bx; rw [hf]; exact if_pos (by assumption)); rw [ef, eb]; refine congrArg (fun z => mW cI h ad σ α ς β τ z) ?_; funext k; simp only [rq, bq, up]; (repeat' split) <;> first | rfl | omega | exact hfr k (by omega))
        · exact absurd hdn c3
      · have c2 := c2
        refine q_runv C w fr_all (q_V (As := []) (rest := []) C w fr_all fX4_readThing gX4_runs_X4_readThing rfl ⟨Nat.le_of_ble_eq_true rfl, Nat.le_of_ble_eq_true rfl⟩ (kX4_readThing_bad l D cI cC cS h ad σ α ς β τ qc P le hq10 hq7 hq11 (by omega) (by omega) bt (by omega) _) (q0 := 0) rfl rfl rfl rfl hl (Nat.le_of_ble_eq_true rfl) dX4_runs_24 ⟨Nat.le_refl 0, Nat.le_refl 0⟩) (fun H locs w => ?_)
        refine q_iload_n C hl dX4_runs_27 rfl 1 rfl ?_
        refine q_if_eq (tgt := 38) C dX4_runs_28 (by decide) ⟨by omega, by omega⟩ (fun c15 => ?_) (fun c15 => ?_)
        · have c15 := c15
          refine q_iconst C dX4_runs_38 ?_
          refine q_istore (lv' := [(4, .int (jj 0)), (0, .ref h), (1, .int (jj dn)), (2, .int (jj n)), (3, .int (jj 1))]) C hl dX4_runs_39 (by decide) rfl (fun ls hl => ?_)
          refine q_aload_n C hl dX4_runs_41 rfl 1 rfl ?_
          refine q_iload C hl dX4_runs_42 0 rfl ?_
          refine q_if_ge (tgt := 66) C dX4_runs_44 (by decide) ⟨by omega, by omega⟩ (fun _ => ?_) (fun z => absurd z (by omega))
          refine q_iconst C dX4_runs_66 ?_
          refine q_putM C w (fun w h => List.mem_cons_of_mem _ (List.mem_append_right _ h)) 15 (by decide) (List.mem_of_getElem? (i := 3) rfl) rfl rfl rfl rfl dX4_runs_67 (mP15 cI h ad _ _ _ _ _ _ _) (fun H locs w => ?_)
          refine q_iload_n C hl dX4_runs_70 rfl 3 rfl ?_
          refine q_aload_n C hl dX4_runs_71 rfl 1 rfl ?_
          refine q_getM (v := .int (jj 0)) C w.1 (fun w h => List.mem_cons_of_mem _ (List.mem_append_right _ h)) 15 (by decide) (List.mem_of_getElem? (i := 3) rfl) rfl dX4_runs_72 ?_
          refine q_if_ge (tgt := 82) C dX4_runs_75 (by decide) ⟨by omega, by omega⟩ (fun _ => ?_) (fun z => absurd z (by omega))
          refine q_iconst C dX4_runs_82 ?_
          refine q_iadd C dX4_runs_83 ?_
          refine q_istore_n (lv' := [(2, .int (jj (n + 1))), (4, .int (jj 0)), (0, .ref h), (1, .int (jj dn)), (3, .int (jj 1))]) C hl dX4_runs_84 rfl (by decide) rfl (fun ls hl => ?_)
          refine q_aload_n C hl dX4_runs_85 rfl 2 rfl ?_
          refine q_getM (v := .int (jj 0)) C w.1 (fun w h => List.mem_cons_of_mem _ (List.mem_append_right _ h)) 15 (by decide) (List.mem_of_getElem? (i := 3) rfl) rfl dX4_runs_86 ?_
          refine q_if_ne (tgt := 114) C dX4_runs_89 (by decide) ⟨by omega, by omega⟩ (fun z => absurd z (by omega)) (fun _ => ?_)
          refine q_aload_n C hl dX4_runs_92 rfl 2 rfl ?_
          refine q_getM (v := .int (jj 1)) C w.1 (fun w h => List.mem_cons_of_mem _ (List.mem_append_right _ h)) 11 (by decide) (List.mem_of_getElem? (i := 2) rfl) rfl dX4_runs_93 ?_
          refine q_if_ne (tgt := 114) C dX4_runs_96 (by decide) ⟨by omega, by omega⟩ (fun _ => ?_) (fun z => absurd z (by omega))
          refine q_iconst C dX4_runs_114 ?_
          refine q_istore_n (lv' := [(3, .int (jj 0)), (2, .int (jj (n + 1))), (4, .int (jj 0)), (0, .ref h), (1, .int (jj dn))]) C hl dX4_runs_115 rfl (by decide) rfl (fun ls hl => ?_)
          refine q_iload_n C hl dX4_runs_116 rfl 0 rfl ?_
          refine q_if_eq (tgt := 143) C dX4_runs_117 (by decide) ⟨by omega, by omega⟩ (fun _ => ?_) (fun z => absurd z (by omega))
          refine q_goto (tgt := 19) C dX4_runs_143 (by decide) ?_
          refine q_iload_n C hl dX4_runs_19 rfl 0 rfl ?_
          refine q_if_eq (tgt := 146) C dX4_runs_20 (by decide) ⟨by omega, by omega⟩ (fun _ => ?_) (fun z => absurd z (by omega))
          refine q_iload_n C hl dX4_runs_146 rfl 1 rfl ?_
          exact q_iret C w dX4_runs_147 (by rw [fin_at hn0.1 (by omega) hit (by omega)]) (by have hf := fin_at hn0.1 (by omega) hit (by omega); have ef : flt τ le = tfl τ le P := (by unfold flt; rw [hf]; exact if_neg (by assumption)); have eb : bx τ q le = up (bq τ q le P) 15 0 := (by unfold bx; rw [hf]; exact if_neg (by assumption)); rw [ef, eb]; refine congrArg (fun z => mW cI h ad σ α ς β τ z) ?_; funext k; simp only [rq, bq, up]; (repeat' split) <;> first | rfl | omega | exact hfr k (by omega))
        · exact absurd hdn c15
  exact loop23 _ 0 0 (up (up (up q 10 0) 11 0) 15 0) (by omega) rfl (by omega) rfl rfl e7 (fun j hj => by simp only [up]; (repeat' split) <;> first | rfl | omega) (Nat.lt_succ_self _) _ _ w ls (lv_sub hl [2, 3, 1, 0] rfl)

set_option maxHeartbeats 4000000 in
set_option maxRecDepth 10000 in
theorem kX4_runs1 (l : Launch) (D : va_G) (cI cC cS : ClassId) (h : Nat) (ad : Nat → Nat) (σ α ς β τ q : Int → Int) (le : Int) (dn : Int) (e7 : q 7 = le) (hdn : dn = 1) (ble : 0 ≤ le ∧ le ≤ 60) (bt : ∀ x : Int, 0 ≤ x → x < le → 0 ≤ τ x ∧ τ x ≤ 65535) (hw : wok τ le) (bY : Iv σ) : Ki l yX4_runs wsX4_runs rX4_runs D (tz cI cC cS) [.ref h, .int (jj dn)] (mW cI h ad σ α ς β τ q) ((er τ σ le).2.1) (mW cI h ad ((er τ σ le).1) α ς β τ (up (rq τ q le (lastP τ σ le)) 15 (er τ σ le).2.2)) := by
  refine q_entry (cc := cX4_runs) (nL := 6) (ret := (some .int)) (by decide) ⟨_, rfl⟩ (Nat.le_of_ble_eq_true rfl) ?_
  intro A pr en s m args below meth c C hin w ls hl
  have w := w
  have hl : lv_has ls 6 [(0, .ref h), (1, .int (jj dn))] := hl
  refine q_aload_n C hl dX4_runs_0 rfl 0 rfl ?_
  refine q_iconst C dX4_runs_1 ?_
  refine q_putM C w (fun w h => List.mem_cons_of_mem _ (List.mem_append_right _ h)) 10 (by decide) (List.mem_of_getElem? (i := 1) rfl) rfl rfl rfl rfl dX4_runs_2 (mP10 cI h ad _ _ _ _ _ _ _) (fun H locs w => ?_)
  refine q_aload_n C hl dX4_runs_5 rfl 0 rfl ?_
  refine q_iconst C dX4_runs_6 ?_
  refine q_putM C w (fun w h => List.mem_cons_of_mem _ (List.mem_append_right _ h)) 11 (by decide) (List.mem_of_getElem? (i := 2) rfl) rfl rfl (nar_b (by omega)) rfl dX4_runs_7 (mP11 cI h ad _ _ _ _ _ _ _) (fun H locs w => ?_)
  refine q_aload_n C hl dX4_runs_10 rfl 0 rfl ?_
  refine q_iconst C dX4_runs_11 ?_
  refine q_putM C w (fun w h => List.mem_cons_of_mem _ (List.mem_append_right _ h)) 15 (by decide) (List.mem_of_getElem? (i := 3) rfl) rfl rfl rfl rfl dX4_runs_12 (mP15 cI h ad _ _ _ _ _ _ _) (fun H locs w => ?_)
  refine q_iconst C dX4_runs_15 ?_
  refine q_istore_n (lv' := [(2, .int (jj 0)), (0, .ref h), (1, .int (jj dn))]) C hl dX4_runs_16 rfl (by decide) rfl (fun ls hl => ?_)
  refine q_iconst C dX4_runs_17 ?_
  refine q_istore_n (lv' := [(3, .int (jj 1)), (2, .int (jj 0)), (0, .ref h), (1, .int (jj dn))]) C hl dX4_runs_18 rfl (by decide) rfl (fun ls hl => ?_)
  refine q_iload_n C hl dX4_runs_19 rfl 0 rfl ?_
  refine q_if_eq (tgt := 146) C dX4_runs_20 (by decide) ⟨by omega, by omega⟩ (fun z => absurd z (by omega)) (fun _ => ?_)
  have loop23 : ∀ (n23 : Nat) (n : Int) (P : Int) (qc : Int → Int) (st : Int → Int), (0 ≤ n ∧ n ≤ 39) → ((P, n) = itp τ le n) → (2 * n ≤ P ∧ P ≤ le) → (qc 10 = P) → (qc 11 = 0) → (qc 7 = le) → (∀ j : Int, (j < 10 ∨ 15 < j) → qc j = q j) → ((st, n, 0) = ers τ σ le n) → (Iv st) → (le - P + 1).toNat < n23 → ∀ (H : Heap) (locs : List Loc), Wd D A s (mW cI h ad st α ς β τ qc) H locs → ∀ ls : Array Slot, lv_has ls 6 [(0, .ref h), (1, .int (jj dn)), (2, .int (jj n)), (3, .int (jj 1))] → W pr l en rX4_runs s m args below meth c H locs 0 0 (MQ below (Qi D (tz cI cC cS) ((er τ σ le).2.1) (mW cI h ad ((er τ σ le).1) α ς β τ (up (rq τ q le (lastP τ σ le)) 15 (er τ σ le).2.2)) A) args s 0 0 A) (F0 m 23 ls []) := by
    intro n23
    induction n23 with
    | zero => intro n P qc st hn0 hit hP hq10 hq11 hq7 hfr hst hI hm; exact absurd hm (Nat.not_lt_zero _)
    | succ n23 ih23 =>
      intro n P qc st hn0 hit hP hq10 hq11 hq7 hfr hst hI hm23 H locs w ls hl
      have hw2 := wok_at hw hn0.1 (by omega) hit
      have ht := ten_b hw2.1
      have hlb := ltr_b (le := le) (P := P) (by omega) bt
      have hu := exU_b hI (tok_ex hw2.1)
      refine q_aload_n C hl dX4_runs_23 rfl 0 rfl ?_
      refine q_runv C w fr_all (q_V (As := []) (rest := []) C w fr_all fX4_readThing gX4_runs_X4_readThing rfl ⟨Nat.le_of_ble_eq_true rfl, Nat.le_of_ble_eq_true rfl⟩ (kX4_readThing_ok l D cI cC cS h ad st α ς β τ qc P le hq10 hq7 hq11 (by omega) (by omega) bt hw2.1 _) (q0 := 0) rfl rfl rfl rfl hl (Nat.le_of_ble_eq_true rfl) dX4_runs_24 ⟨Nat.le_refl 0, Nat.le_refl 0⟩) (fun H locs w => ?_)
      refine q_iload_n C hl dX4_runs_27 rfl 1 rfl ?_
      refine q_if_eq (tgt := 38) C dX4_runs_28 (by decide) ⟨by omega, by omega⟩ (fun c2 => ?_) (fun c2 => ?_)
      · exact absurd c2 (by omega)
      · have c2 := c2
        refine q_aload_n C hl dX4_runs_31 rfl 0 rfl ?_
        refine q_runi C w fr_all (q_V (As := []) (rest := []) C w fr_all fX4_does gX4_runs_X4_does rfl ⟨Nat.le_of_ble_eq_true rfl, Nat.le_of_ble_eq_true rfl⟩ (kX4_does l D cI cC cS h ad st α ς β τ (rq τ qc le P) (ltr τ le P) (tnu τ le P) (tsi τ le P) rfl rfl rfl hI (by omega) (tok_ex hw2.1) _) (q0 := 0) rfl rfl rfl rfl hl (Nat.le_of_ble_eq_true rfl) dX4_runs_32 ⟨Nat.le_refl 0, Nat.le_refl 0⟩) (fun H locs w => ?_)
        refine q_goto (tgt := 39) C dX4_runs_35 (by decide) ?_
        refine q_istore (lv' := [(4, .int (jj (exU st (ltr τ le P) (tnu τ le P) (tsi τ le P)))), (0, .ref h), (1, .int (jj dn)), (2, .int (jj n)), (3, .int (jj 1))]) C hl dX4_runs_39 (by decide) rfl (fun ls hl => ?_)
        refine q_aload_n C hl dX4_runs_41 rfl 1 rfl ?_
        refine q_iload C hl dX4_runs_42 0 rfl ?_
        refine q_if_ge (tgt := 66) C dX4_runs_44 (by decide) ⟨by omega, by omega⟩ (fun c3 => ?_) (fun c3 => ?_)
        · have c3 := c3
          refine q_iconst C dX4_runs_66 ?_
          refine q_putM C w (fun w h => List.mem_cons_of_mem _ (List.mem_append_right _ h)) 15 (by decide) (List.mem_of_getElem? (i := 3) rfl) rfl rfl rfl rfl dX4_runs_67 (mP15 cI h ad _ _ _ _ _ _ _) (fun H locs w => ?_)
          refine q_iload_n C hl dX4_runs_70 rfl 3 rfl ?_
          refine q_aload_n C hl dX4_runs_71 rfl 1 rfl ?_
          refine q_getM (v := .int (jj 0)) C w.1 (fun w h => List.mem_cons_of_mem _ (List.mem_append_right _ h)) 15 (by decide) (List.mem_of_getElem? (i := 3) rfl) rfl dX4_runs_72 ?_
          refine q_if_ge (tgt := 82) C dX4_runs_75 (by decide) ⟨by omega, by omega⟩ (fun _ => ?_) (fun z => absurd z (by omega))
          refine q_iconst C dX4_runs_82 ?_
          refine q_iadd C dX4_runs_83 ?_
          refine q_istore_n (lv' := [(2, .int (jj (n + 1))), (4, .int (jj (exU st (ltr τ le P) (tnu τ le P) (tsi τ le P)))), (0, .ref h), (1, .int (jj dn)), (3, .int (jj 1))]) C hl dX4_runs_84 rfl (by decide) rfl (fun ls hl => ?_)
          refine q_aload_n C hl dX4_runs_85 rfl 2 rfl ?_
          refine q_getM (v := .int (jj 0)) C w.1 (fun w h => List.mem_cons_of_mem _ (List.mem_append_right _ h)) 15 (by decide) (List.mem_of_getElem? (i := 3) rfl) rfl dX4_runs_86 ?_
          refine q_if_ne (tgt := 114) C dX4_runs_89 (by decide) ⟨by omega, by omega⟩ (fun z => absurd z (by omega)) (fun _ => ?_)
          refine q_aload_n C hl dX4_runs_92 rfl 2 rfl ?_
          refine q_getM (v := .int (jj 0)) C w.1 (fun w h => List.mem_cons_of_mem _ (List.mem_append_right _ h)) 11 (by decide) (List.mem_of_getElem? (i := 2) rfl) rfl dX4_runs_93 ?_
          refine q_if_ne (tgt := 114) C dX4_runs_96 (by decide) ⟨by omega, by omega⟩ (fun z => absurd z (by omega)) (fun _ => ?_)
          refine q_aload_n C hl dX4_runs_99 rfl 2 rfl ?_
          refine q_getM (v := .int (jj (ten τ le P))) C w.1 (fun w h => List.mem_cons_of_mem _ (List.mem_append_right _ h)) 10 (by decide) (List.mem_of_getElem? (i := 1) rfl) rfl dX4_runs_100 ?_
          refine q_aload_n C hl dX4_runs_103 rfl 2 rfl ?_
          refine q_getM (v := .int (jj le)) C w.1 (fun w h => List.mem_cons_of_mem _ (List.mem_append_right _ h)) 7 (by decide) (List.mem_of_getElem? (i := 4) rfl) (gt_v rfl hq7) dX4_runs_104 ?_
          refine q_icmp_ge (tgt := 114) C dX4_runs_107 (by decide) ⟨by omega, by omega⟩ ⟨by omega, by omega⟩ (fun c7 => ?_) (fun c7 => ?_)
          · have c7 := c7
            refine q_iconst C dX4_runs_114 ?_
            refine q_istore_n (lv' := [(3, .int (jj 0)), (2, .int (jj (n + 1))), (4, .int (jj (exU st (ltr τ le P) (tnu τ le P) (tsi τ le P)))), (0, .ref h), (1, .int (jj dn))]) C hl dX4_runs_115 rfl (by decide) rfl (fun ls hl => ?_)
            refine q_iload_n C hl dX4_runs_116 rfl 0 rfl ?_
            refine q_if_eq (tgt := 143) C dX4_runs_117 (by decide) ⟨by omega, by omega⟩ (fun _ => ?_) (fun z => absurd z (by omega))
            refine q_goto (tgt := 19) C dX4_runs_143 (by decide) ?_
            refine q_iload_n C hl dX4_runs_19 rfl 0 rfl ?_
            refine q_if_eq (tgt := 146) C dX4_runs_20 (by decide) ⟨by omega, by omega⟩ (fun _ => ?_) (fun z => absurd z (by omega))
            refine q_iload_n C hl dX4_runs_146 rfl 1 rfl ?_
            exact q_iret C w dX4_runs_147 (by rw [er_end hn0.1 (by omega) hit (by omega) hst (show ¬ stp (exU st (ltr τ le P) (tnu τ le P) (tsi τ le P)) by omega)] <;> (show _ = n + 1; omega)) (by have he := er_end hn0.1 (by omega) hit (by omega) hst (show ¬ stp (exU st (ltr τ le P) (tnu τ le P) (tsi τ le P)) by omega); have hl : lastP τ σ le = P := (by unfold lastP; rw [he]; show (itp τ le (if 0 = 0 then n + 1 - 1 else n + 1)).1 = P; rw [if_pos rfl, show n + 1 - 1 = n by omega, ← hit]); rw [hl, he]; show mW cI h ad (xV τ st le P) α ς β τ _ = mW cI h ad (xV τ st le P) α ς β τ (up (rq τ q le P) 15 (0)); refine congrArg (fun z => mW cI h ad (xV τ st le P) α ς β τ z) ?_; funext k; simp only [rq, bq, up]; (repeat' split) <;> first | rfl | omega | exact hfr k (by omega))
          · have c7 := c7
            refine q_iconst C dX4_runs_110 ?_
            refine q_goto (tgt := 115) C dX4_runs_111 (by decide) ?_
            refine q_istore_n (lv' := [(3, .int (jj 1)), (2, .int (jj (n + 1))), (4, .int (jj (exU st (ltr τ le P) (tnu τ le P) (tsi τ le P)))), (0, .ref h), (1, .int (jj dn))]) C hl dX4_runs_115 rfl (by decide) rfl (fun ls hl => ?_)
            refine q_iload_n C hl dX4_runs_116 rfl 0 rfl ?_
            refine q_if_eq (tgt := 143) C dX4_runs_117 (by decide) ⟨by omega, by omega⟩ (fun z => absurd z (by omega)) (fun _ => ?_)
            have hcn := hw2.2 (by omega)
            have el := ltr_in (τ := τ) (le := le) (P := ten τ le P) (by omega)
            refine q_aload_n C hl dX4_runs_120 rfl 3 rfl ?_
            refine q_bipush C dX4_runs_121 (by decide) ?_
            refine q_bipush C dX4_runs_123 (by decide) ?_
            refine q_runi C w fr_all (q_V (As := [.int (jj 59), .int (jj 59)]) (rest := []) C w fr_all fX4_takes gX4_runs_X4_takes rfl ⟨Nat.le_of_ble_eq_true rfl, Nat.le_of_ble_eq_true rfl⟩ (kX4_takes_ok l D cI cC cS h ad (exV st (ltr τ le P) (tnu τ le P) (tsi τ le P)) α ς β τ (up (rq τ qc le P) 15 0) (ten τ le P) le 59 59 rfl hq7 rfl (by omega) (by omega) bt (by omega) (by omega) _) (q0 := 0) rfl rfl rfl rfl hl (Nat.le_of_ble_eq_true rfl) dX4_runs_125 ⟨Nat.le_refl 0, Nat.le_refl 0⟩) (fun H locs w => ?_)
            refine q_istore (lv' := [(5, .int (jj (ltr τ le (ten τ le P) - 59))), (3, .int (jj 1)), (2, .int (jj (n + 1))), (4, .int (jj (exU st (ltr τ le P) (tnu τ le P) (tsi τ le P)))), (0, .ref h), (1, .int (jj dn))]) C hl dX4_runs_128 (by decide) rfl (fun ls hl => ?_)
            refine q_aload_n C hl dX4_runs_130 rfl 4 rfl ?_
            refine q_getM (v := .int (jj 0)) C w.1 (fun w h => List.mem_cons_of_mem _ (List.mem_append_right _ h)) 11 (by decide) (List.mem_of_getElem? (i := 2) rfl) rfl dX4_runs_131 ?_
            refine q_if_ne (tgt := 141) C dX4_runs_134 (by decide) ⟨by omega, by omega⟩ (fun z => absurd z (by omega)) (fun _ => ?_)
            refine q_iconst C dX4_runs_137 ?_
            refine q_goto (tgt := 142) C dX4_runs_138 (by decide) ?_
            refine q_istore_n (lv' := [(3, .int (jj 1)), (5, .int (jj (ltr τ le (ten τ le P) - 59))), (2, .int (jj (n + 1))), (4, .int (jj (exU st (ltr τ le P) (tnu τ le P) (tsi τ le P)))), (0, .ref h), (1, .int (jj dn))]) C hl dX4_runs_142 rfl (by decide) rfl (fun ls hl => ?_)
            refine q_goto (tgt := 19) C dX4_runs_143 (by decide) ?_
            refine q_iload_n C hl dX4_runs_19 rfl 0 rfl ?_
            refine q_if_eq (tgt := 146) C dX4_runs_20 (by decide) ⟨by omega, by omega⟩ (fun z => absurd z (by omega)) (fun _ => ?_)
            exact ih23 (n + 1) (ten τ le P + 1) (up (up (up (rq τ qc le P) 15 0) 11 0) 10 ((ten τ le P) + 1)) (exV st (ltr τ le P) (tnu τ le P) (tsi τ le P)) (by omega) (itp_go hn0.1 hit hcn) (by omega) rfl rfl hq7 (fun j hj => by rw [← hfr j hj]; simp only [rq, up]; (repeat' split) <;> first | rfl | omega) (ers_go hn0.1 hit hst (show ¬ stp (exU st (ltr τ le P) (tnu τ le P) (tsi τ le P)) by omega)) (exV_I hI (tok_ex hw2.1)) (by omega) _ _ w ls (lv_sub hl [4, 5, 2, 0] rfl)
        · have c3 := c3
          refine q_iload C hl dX4_runs_47 0 rfl ?_
          refine q_bipush C dX4_runs_49 (by decide) ?_
          refine q_icmp_eq (tgt := 66) C dX4_runs_51 (by decide) ⟨by omega, by omega⟩ ⟨by omega, by omega⟩ (fun c13 => ?_) (fun c13 => ?_)
          · have c13 := c13
            refine q_iconst C dX4_runs_66 ?_
            refine q_putM C w (fun w h => List.mem_cons_of_mem _ (List.mem_append_right _ h)) 15 (by decide) (List.mem_of_getElem? (i := 3) rfl) rfl rfl rfl rfl dX4_runs_67 (mP15 cI h ad _ _ _ _ _ _ _) (fun H locs w => ?_)
            refine q_iload_n C hl dX4_runs_70 rfl 3 rfl ?_
            refine q_aload_n C hl dX4_runs_71 rfl 1 rfl ?_
            refine q_getM (v := .int (jj 0)) C w.1 (fun w h => List.mem_cons_of_mem _ (List.mem_append_right _ h)) 15 (by decide) (List.mem_of_getElem? (i := 3) rfl) rfl dX4_runs_72 ?_
            refine q_if_ge (tgt := 82) C dX4_runs_75 (by decide) ⟨by omega, by omega⟩ (fun _ => ?_) (fun z => absurd z (by omega))
            refine q_iconst C dX4_runs_82 ?_
            refine q_iadd C dX4_runs_83 ?_
            refine q_istore_n (lv' := [(2, .int (jj (n + 1))), (4, .int (jj (exU st (ltr τ le P) (tnu τ le P) (tsi τ le P)))), (0, .ref h), (1, .int (jj dn)), (3, .int (jj 1))]) C hl dX4_runs_84 rfl (by decide) rfl (fun ls hl => ?_)
            refine q_aload_n C hl dX4_runs_85 rfl 2 rfl ?_
            refine q_getM (v := .int (jj 0)) C w.1 (fun w h => List.mem_cons_of_mem _ (List.mem_append_right _ h)) 15 (by decide) (List.mem_of_getElem? (i := 3) rfl) rfl dX4_runs_86 ?_
            refine q_if_ne (tgt := 114) C dX4_runs_89 (by decide) ⟨by omega, by omega⟩ (fun z => absurd z (by omega)) (fun _ => ?_)
            refine q_aload_n C hl dX4_runs_92 rfl 2 rfl ?_
            refine q_getM (v := .int (jj 0)) C w.1 (fun w h => List.mem_cons_of_mem _ (List.mem_append_right _ h)) 11 (by decide) (List.mem_of_getElem? (i := 2) rfl) rfl dX4_runs_93 ?_
            refine q_if_ne (tgt := 114) C dX4_runs_96 (by decide) ⟨by omega, by omega⟩ (fun z => absurd z (by omega)) (fun _ => ?_)
            refine q_aload_n C hl dX4_runs_99 rfl 2 rfl ?_
            refine q_getM (v := .int (jj (ten τ le P))) C w.1 (fun w h => List.mem_cons_of_mem _ (List.mem_append_right _ h)) 10 (by decide) (List.mem_of_getElem? (i := 1) rfl) rfl dX4_runs_100 ?_
            refine q_aload_n C hl dX4_runs_103 rfl 2 rfl ?_
            refine q_getM (v := .int (jj le)) C w.1 (fun w h => List.mem_cons_of_mem _ (List.mem_append_right _ h)) 7 (by decide) (List.mem_of_getElem? (i := 4) rfl) (gt_v rfl hq7) dX4_runs_104 ?_
            refine q_icmp_ge (tgt := 114) C dX4_runs_107 (by decide) ⟨by omega, by omega⟩ ⟨by omega, by omega⟩ (fun c17 => ?_) (fun c17 => ?_)
            · have c17 := c17
              refine q_iconst C dX4_runs_114 ?_
              refine q_istore_n (lv' := [(3, .int (jj 0)), (2, .int (jj (n + 1))), (4, .int (jj (exU st (ltr τ le P) (tnu τ le P) (tsi τ le P)))), (0, .ref h), (1, .int (jj dn))]) C hl dX4_runs_115 rfl (by decide) rfl (fun ls hl => ?_)
              refine q_iload_n C hl dX4_runs_116 rfl 0 rfl ?_
              refine q_if_eq (tgt := 143) C dX4_runs_117 (by decide) ⟨by omega, by omega⟩ (fun _ => ?_) (fun z => absurd z (by omega))
              refine q_goto (tgt := 19) C dX4_runs_143 (by decide) ?_
              refine q_iload_n C hl dX4_runs_19 rfl 0 rfl ?_
              refine q_if_eq (tgt := 146) C dX4_runs_20 (by decide) ⟨by omega, by omega⟩ (fun _ => ?_) (fun z => absurd z (by omega))
              refine q_iload_n C hl dX4_runs_146 rfl 1 rfl ?_
              exact q_iret C w dX4_runs_147 (by rw [er_end hn0.1 (by omega) hit (by omega) hst (show ¬ stp (exU st (ltr τ le P) (tnu τ le P) (tsi τ le P)) by omega)] <;> (show _ = n + 1; omega)) (by have he := er_end hn0.1 (by omega) hit (by omega) hst (show ¬ stp (exU st (ltr τ le P) (tnu τ le P) (tsi τ le P)) by omega); have hl : lastP τ σ le = P := (by unfold lastP; rw [he]; show (itp τ le (if 0 = 0 then n + 1 - 1 else n + 1)).1 = P; rw [if_pos rfl, show n + 1 - 1 = n by omega, ← hit]); rw [hl, he]; show mW cI h ad (xV τ st le P) α ς β τ _ = mW cI h ad (xV τ st le P) α ς β τ (up (rq τ q le P) 15 (0)); refine congrArg (fun z => mW cI h ad (xV τ st le P) α ς β τ z) ?_; funext k; simp only [rq, bq, up]; (repeat' split) <;> first | rfl | omega | exact hfr k (by omega))
            · have c17 := c17
              refine q_iconst C dX4_runs_110 ?_
              refine q_goto (tgt := 115) C dX4_runs_111 (by decide) ?_
              refine q_istore_n (lv' := [(3, .int (jj 1)), (2, .int (jj (n + 1))), (4, .int (jj (exU st (ltr τ le P) (tnu τ le P) (tsi τ le P)))), (0, .ref h), (1, .int (jj dn))]) C hl dX4_runs_115 rfl (by decide) rfl (fun ls hl => ?_)
              refine q_iload_n C hl dX4_runs_116 rfl 0 rfl ?_
              refine q_if_eq (tgt := 143) C dX4_runs_117 (by decide) ⟨by omega, by omega⟩ (fun z => absurd z (by omega)) (fun _ => ?_)
              have hcn := hw2.2 (by omega)
              have el := ltr_in (τ := τ) (le := le) (P := ten τ le P) (by omega)
              refine q_aload_n C hl dX4_runs_120 rfl 3 rfl ?_
              refine q_bipush C dX4_runs_121 (by decide) ?_
              refine q_bipush C dX4_runs_123 (by decide) ?_
              refine q_runi C w fr_all (q_V (As := [.int (jj 59), .int (jj 59)]) (rest := []) C w fr_all fX4_takes gX4_runs_X4_takes rfl ⟨Nat.le_of_ble_eq_true rfl, Nat.le_of_ble_eq_true rfl⟩ (kX4_takes_ok l D cI cC cS h ad (exV st (ltr τ le P) (tnu τ le P) (tsi τ le P)) α ς β τ (up (rq τ qc le P) 15 0) (ten τ le P) le 59 59 rfl hq7 rfl (by omega) (by omega) bt (by omega) (by omega) _) (q0 := 0) rfl rfl rfl rfl hl (Nat.le_of_ble_eq_true rfl) dX4_runs_125 ⟨Nat.le_refl 0, Nat.le_refl 0⟩) (fun H locs w => ?_)
              refine q_istore (lv' := [(5, .int (jj (ltr τ le (ten τ le P) - 59))), (3, .int (jj 1)), (2, .int (jj (n + 1))), (4, .int (jj (exU st (ltr τ le P) (tnu τ le P) (tsi τ le P)))), (0, .ref h), (1, .int (jj dn))]) C hl dX4_runs_128 (by decide) rfl (fun ls hl => ?_)
              refine q_aload_n C hl dX4_runs_130 rfl 4 rfl ?_
              refine q_getM (v := .int (jj 0)) C w.1 (fun w h => List.mem_cons_of_mem _ (List.mem_append_right _ h)) 11 (by decide) (List.mem_of_getElem? (i := 2) rfl) rfl dX4_runs_131 ?_
              refine q_if_ne (tgt := 141) C dX4_runs_134 (by decide) ⟨by omega, by omega⟩ (fun z => absurd z (by omega)) (fun _ => ?_)
              refine q_iconst C dX4_runs_137 ?_
              refine q_goto (tgt := 142) C dX4_runs_138 (by decide) ?_
              refine q_istore_n (lv' := [(3, .int (jj 1)), (5, .int (jj (ltr τ le (ten τ le P) - 59))), (2, .int (jj (n + 1))), (4, .int (jj (exU st (ltr τ le P) (tnu τ le P) (tsi τ le P)))), (0, .ref h), (1, .int (jj dn))]) C hl dX4_runs_142 rfl (by decide) rfl (fun ls hl => ?_)
              refine q_goto (tgt := 19) C dX4_runs_143 (by decide) ?_
              refine q_iload_n C hl dX4_runs_19 rfl 0 rfl ?_
              refine q_if_eq (tgt := 146) C dX4_runs_20 (by decide) ⟨by omega, by omega⟩ (fun z => absurd z (by omega)) (fun _ => ?_)
              exact ih23 (n + 1) (ten τ le P + 1) (up (up (up (rq τ qc le P) 15 0) 11 0) 10 ((ten τ le P) + 1)) (exV st (ltr τ le P) (tnu τ le P) (tsi τ le P)) (by omega) (itp_go hn0.1 hit hcn) (by omega) rfl rfl hq7 (fun j hj => by rw [← hfr j hj]; simp only [rq, up]; (repeat' split) <;> first | rfl | omega) (ers_go hn0.1 hit hst (show ¬ stp (exU st (ltr τ le P) (tnu τ le P) (tsi τ le P)) by omega)) (exV_I hI (tok_ex hw2.1)) (by omega) _ _ w ls (lv_sub hl [4, 5, 2, 0] rfl)
          · have c13 := c13
            refine q_iload C hl dX4_runs_54 0 rfl ?_
            refine q_bipush C dX4_runs_56 (by decide) ?_
            refine q_icmp_le (tgt := 66) C dX4_runs_58 (by decide) ⟨by omega, by omega⟩ ⟨by omega, by omega⟩ (fun c23 => ?_) (fun c23 => ?_)
            · have c23 := c23
              refine q_iconst C dX4_runs_66 ?_
              refine q_putM C w (fun w h => List.mem_cons_of_mem _ (List.mem_append_right _ h)) 15 (by decide) (List.mem_of_getElem? (i := 3) rfl) rfl rfl rfl rfl dX4_runs_67 (mP15 cI h ad _ _ _ _ _ _ _) (fun H locs w => ?_)
              refine q_iload_n C hl dX4_runs_70 rfl 3 rfl ?_
              refine q_aload_n C hl dX4_runs_71 rfl 1 rfl ?_
              refine q_getM (v := .int (jj 0)) C w.1 (fun w h => List.mem_cons_of_mem _ (List.mem_append_right _ h)) 15 (by decide) (List.mem_of_getElem? (i := 3) rfl) rfl dX4_runs_72 ?_
              refine q_if_ge (tgt := 82) C dX4_runs_75 (by decide) ⟨by omega, by omega⟩ (fun _ => ?_) (fun z => absurd z (by omega))
              refine q_iconst C dX4_runs_82 ?_
              refine q_iadd C dX4_runs_83 ?_
              refine q_istore_n (lv' := [(2, .int (jj (n + 1))), (4, .int (jj (exU st (ltr τ le P) (tnu τ le P) (tsi τ le P)))), (0, .ref h), (1, .int (jj dn)), (3, .int (jj 1))]) C hl dX4_runs_84 rfl (by decide) rfl (fun ls hl => ?_)
              refine q_aload_n C hl dX4_runs_85 rfl 2 rfl ?_
              refine q_getM (v := .int (jj 0)) C w.1 (fun w h => List.mem_cons_of_mem _ (List.mem_append_right _ h)) 15 (by decide) (List.mem_of_getElem? (i := 3) rfl) rfl dX4_runs_86 ?_
              refine q_if_ne (tgt := 114) C dX4_runs_89 (by decide) ⟨by omega, by omega⟩ (fun z => absurd z (by omega)) (fun _ => ?_)
              refine q_aload_n C hl dX4_runs_92 rfl 2 rfl ?_
              refine q_getM (v := .int (jj 0)) C w.1 (fun w h => List.mem_cons_of_mem _ (List.mem_append_right _ h)) 11 (by decide) (List.mem_of_getElem? (i := 2) rfl) rfl dX4_runs_93 ?_
              refine q_if_ne (tgt := 114) C dX4_runs_96 (by decide) ⟨by omega, by omega⟩ (fun z => absurd z (by omega)) (fun _ => ?_)
              refine q_aload_n C hl dX4_runs_99 rfl 2 rfl ?_
              refine q_getM (v := .int (jj (ten τ le P))) C w.1 (fun w h => List.mem_cons_of_mem _ (List.mem_append_right _ h)) 10 (by decide) (List.mem_of_getElem? (i := 1) rfl) rfl dX4_runs_100 ?_
              refine q_aload_n C hl dX4_runs_103 rfl 2 rfl ?_
              refine q_getM (v := .int (jj le)) C w.1 (fun w h => List.mem_cons_of_mem _ (List.mem_append_right _ h)) 7 (by decide) (List.mem_of_getElem? (i := 4) rfl) (gt_v rfl hq7) dX4_runs_104 ?_
              refine q_icmp_ge (tgt := 114) C dX4_runs_107 (by decide) ⟨by omega, by omega⟩ ⟨by omega, by omega⟩ (fun c27 => ?_) (fun c27 => ?_)
              · have c27 := c27
                refine q_iconst C dX4_runs_114 ?_
                refine q_istore_n (lv' := [(3, .int (jj 0)), (2, .int (jj (n + 1))), (4, .int (jj (exU st (ltr τ le P) (tnu τ le P) (tsi τ le P)))), (0, .ref h), (1, .int (jj dn))]) C hl dX4_runs_115 rfl (by decide) rfl (fun ls hl => ?_)
                refine q_iload_n C hl dX4_runs_116 rfl 0 rfl ?_
                refine q_if_eq (tgt := 143) C dX4_runs_117 (by decide) ⟨by omega, by omega⟩ (fun _ => ?_) (fun z => absurd z (by omega))
                refine q_goto (tgt := 19) C dX4_runs_143 (by decide) ?_
                refine q_iload_n C hl dX4_runs_19 rfl 0 rfl ?_
                refine q_if_eq (tgt := 146) C dX4_runs_20 (by decide) ⟨by omega, by omega⟩ (fun _ => ?_) (fun z => absurd z (by omega))
                refine q_iload_n C hl dX4_runs_146 rfl 1 rfl ?_
                exact q_iret C w dX4_runs_147 (by rw [er_end hn0.1 (by omega) hit (by omega) hst (show ¬ stp (exU st (ltr τ le P) (tnu τ le P) (tsi τ le P)) by omega)] <;> (show _ = n + 1; omega)) (by have he := er_end hn0.1 (by omega) hit (by omega) hst (show ¬ stp (exU st (ltr τ le P) (tnu τ le P) (tsi τ le P)) by omega); have hl : lastP τ σ le = P := (by unfold lastP; rw [he]; show (itp τ le (if 0 = 0 then n + 1 - 1 else n + 1)).1 = P; rw [if_pos rfl, show n + 1 - 1 = n by omega, ← hit]); rw [hl, he]; show mW cI h ad (xV τ st le P) α ς β τ _ = mW cI h ad (xV τ st le P) α ς β τ (up (rq τ q le P) 15 (0)); refine congrArg (fun z => mW cI h ad (xV τ st le P) α ς β τ z) ?_; funext k; simp only [rq, bq, up]; (repeat' split) <;> first | rfl | omega | exact hfr k (by omega))
              · have c27 := c27
                refine q_iconst C dX4_runs_110 ?_
                refine q_goto (tgt := 115) C dX4_runs_111 (by decide) ?_
                refine q_istore_n (lv' := [(3, .int (jj 1)), (2, .int (jj (n + 1))), (4, .int (jj (exU st (ltr τ le P) (tnu τ le P) (tsi τ le P)))), (0, .ref h), (1, .int (jj dn))]) C hl dX4_runs_115 rfl (by decide) rfl (fun ls hl => ?_)
                refine q_iload_n C hl dX4_runs_116 rfl 0 rfl ?_
                refine q_if_eq (tgt := 143) C dX4_runs_117 (by decide) ⟨by omega, by omega⟩ (fun z => absurd z (by omega)) (fun _ => ?_)
                have hcn := hw2.2 (by omega)
                have el := ltr_in (τ := τ) (le := le) (P := ten τ le P) (by omega)
                refine q_aload_n C hl dX4_runs_120 rfl 3 rfl ?_
                refine q_bipush C dX4_runs_121 (by decide) ?_
                refine q_bipush C dX4_runs_123 (by decide) ?_
                refine q_runi C w fr_all (q_V (As := [.int (jj 59), .int (jj 59)]) (rest := []) C w fr_all fX4_takes gX4_runs_X4_takes rfl ⟨Nat.le_of_ble_eq_true rfl, Nat.le_of_ble_eq_true rfl⟩ (kX4_takes_ok l D cI cC cS h ad (exV st (ltr τ le P) (tnu τ le P) (tsi τ le P)) α ς β τ (up (rq τ qc le P) 15 0) (ten τ le P) le 59 59 rfl hq7 rfl (by omega) (by omega) bt (by omega) (by omega) _) (q0 := 0) rfl rfl rfl rfl hl (Nat.le_of_ble_eq_true rfl) dX4_runs_125 ⟨Nat.le_refl 0, Nat.le_refl 0⟩) (fun H locs w => ?_)
                refine q_istore (lv' := [(5, .int (jj (ltr τ le (ten τ le P) - 59))), (3, .int (jj 1)), (2, .int (jj (n + 1))), (4, .int (jj (exU st (ltr τ le P) (tnu τ le P) (tsi τ le P)))), (0, .ref h), (1, .int (jj dn))]) C hl dX4_runs_128 (by decide) rfl (fun ls hl => ?_)
                refine q_aload_n C hl dX4_runs_130 rfl 4 rfl ?_
                refine q_getM (v := .int (jj 0)) C w.1 (fun w h => List.mem_cons_of_mem _ (List.mem_append_right _ h)) 11 (by decide) (List.mem_of_getElem? (i := 2) rfl) rfl dX4_runs_131 ?_
                refine q_if_ne (tgt := 141) C dX4_runs_134 (by decide) ⟨by omega, by omega⟩ (fun z => absurd z (by omega)) (fun _ => ?_)
                refine q_iconst C dX4_runs_137 ?_
                refine q_goto (tgt := 142) C dX4_runs_138 (by decide) ?_
                refine q_istore_n (lv' := [(3, .int (jj 1)), (5, .int (jj (ltr τ le (ten τ le P) - 59))), (2, .int (jj (n + 1))), (4, .int (jj (exU st (ltr τ le P) (tnu τ le P) (tsi τ le P)))), (0, .ref h), (1, .int (jj dn))]) C hl dX4_runs_142 rfl (by decide) rfl (fun ls hl => ?_)
                refine q_goto (tgt := 19) C dX4_runs_143 (by decide) ?_
                refine q_iload_n C hl dX4_runs_19 rfl 0 rfl ?_
                refine q_if_eq (tgt := 146) C dX4_runs_20 (by decide) ⟨by omega, by omega⟩ (fun z => absurd z (by omega)) (fun _ => ?_)
                exact ih23 (n + 1) (ten τ le P + 1) (up (up (up (rq τ qc le P) 15 0) 11 0) 10 ((ten τ le P) + 1)) (exV st (ltr τ le P) (tnu τ le P) (tsi τ le P)) (by omega) (itp_go hn0.1 hit hcn) (by omega) rfl rfl hq7 (fun j hj => by rw [← hfr j hj]; simp only [rq, up]; (repeat' split) <;> first | rfl | omega) (ers_go hn0.1 hit hst (show ¬ stp (exU st (ltr τ le P) (tnu τ le P) (tsi τ le P)) by omega)) (exV_I hI (tok_ex hw2.1)) (by omega) _ _ w ls (lv_sub hl [4, 5, 2, 0] rfl)
            · have c23 := c23
              refine q_iload C hl dX4_runs_61 0 rfl ?_
              refine q_goto (tgt := 67) C dX4_runs_63 (by decide) ?_
              refine q_putM C w (fun w h => List.mem_cons_of_mem _ (List.mem_append_right _ h)) 15 (by decide) (List.mem_of_getElem? (i := 3) rfl) rfl rfl rfl rfl dX4_runs_67 (mP15 cI h ad _ _ _ _ _ _ _) (fun H locs w => ?_)
              refine q_iload_n C hl dX4_runs_70 rfl 3 rfl ?_
              refine q_aload_n C hl dX4_runs_71 rfl 1 rfl ?_
              refine q_getM (v := .int (jj (exU st (ltr τ le P) (tnu τ le P) (tsi τ le P)))) C w.1 (fun w h => List.mem_cons_of_mem _ (List.mem_append_right _ h)) 15 (by decide) (List.mem_of_getElem? (i := 3) rfl) rfl dX4_runs_72 ?_
              refine q_if_ge (tgt := 82) C dX4_runs_75 (by decide) ⟨by omega, by omega⟩ (fun c33 => ?_) (fun c33 => ?_)
              · exact absurd c33 (by omega)
              · have c33 := c33
                refine q_iconst C dX4_runs_78 ?_
                refine q_goto (tgt := 83) C dX4_runs_79 (by decide) ?_
                refine q_iadd C dX4_runs_83 ?_
                refine q_istore_n (lv' := [(2, .int (jj (n + 0))), (4, .int (jj (exU st (ltr τ le P) (tnu τ le P) (tsi τ le P)))), (0, .ref h), (1, .int (jj dn)), (3, .int (jj 1))]) C hl dX4_runs_84 rfl (by decide) rfl (fun ls hl => ?_)
                refine q_aload_n C hl dX4_runs_85 rfl 2 rfl ?_
                refine q_getM (v := .int (jj (exU st (ltr τ le P) (tnu τ le P) (tsi τ le P)))) C w.1 (fun w h => List.mem_cons_of_mem _ (List.mem_append_right _ h)) 15 (by decide) (List.mem_of_getElem? (i := 3) rfl) rfl dX4_runs_86 ?_
                refine q_if_ne (tgt := 114) C dX4_runs_89 (by decide) ⟨by omega, by omega⟩ (fun c34 => ?_) (fun c34 => ?_)
                · have c34 := c34
                  refine q_iconst C dX4_runs_114 ?_
                  refine q_istore_n (lv' := [(3, .int (jj 0)), (2, .int (jj (n + 0))), (4, .int (jj (exU st (ltr τ le P) (tnu τ le P) (tsi τ le P)))), (0, .ref h), (1, .int (jj dn))]) C hl dX4_runs_115 rfl (by decide) rfl (fun ls hl => ?_)
                  refine q_iload_n C hl dX4_runs_116 rfl 0 rfl ?_
                  refine q_if_eq (tgt := 143) C dX4_runs_117 (by decide) ⟨by omega, by omega⟩ (fun _ => ?_) (fun z => absurd z (by omega))
                  refine q_goto (tgt := 19) C dX4_runs_143 (by decide) ?_
                  refine q_iload_n C hl dX4_runs_19 rfl 0 rfl ?_
                  refine q_if_eq (tgt := 146) C dX4_runs_20 (by decide) ⟨by omega, by omega⟩ (fun _ => ?_) (fun z => absurd z (by omega))
                  refine q_iload_n C hl dX4_runs_146 rfl 1 rfl ?_
                  exact q_iret C w dX4_runs_147 (by rw [er_stop ble.1 hn0.1 (by omega) hit hst (show stp (exU st (ltr τ le P) (tnu τ le P) (tsi τ le P)) by omega)] <;> (show _ = n; omega)) (by have he := er_stop ble.1 hn0.1 (by omega) hit hst (show stp (exU st (ltr τ le P) (tnu τ le P) (tsi τ le P)) by omega); have hl : lastP τ σ le = P := (by unfold lastP; rw [he]; show (itp τ le (if xU τ st le P = 0 then n - 1 else n)).1 = P; rw [if_neg (show ¬ xU τ st le P = 0 from (show ¬ exU st (ltr τ le P) (tnu τ le P) (tsi τ le P) = 0 by omega)), ← hit]); rw [hl, he]; show mW cI h ad (xV τ st le P) α ς β τ _ = mW cI h ad (xV τ st le P) α ς β τ (up (rq τ q le P) 15 (xU τ st le P)); refine congrArg (fun z => mW cI h ad (xV τ st le P) α ς β τ z) ?_; funext k; simp only [rq, bq, up]; (repeat' split) <;> first | rfl | omega | exact hfr k (by omega))
                · exact absurd c34 (by omega)
  exact loop23 _ 0 0 (up (up (up q 10 0) 11 0) 15 0) σ (by omega) rfl (by omega) rfl rfl e7 (fun j hj => by simp only [up]; (repeat' split) <;> first | rfl | omega) rfl bY (Nat.lt_succ_self _) _ _ w ls (lv_sub hl [2, 3, 1, 0] rfl)

def rX4_perform : Room := { frames := 10, cells := 0, slots := 0, locals := 226 }
theorem fX4_perform : Fc yX4_perform wsX4_perform rX4_perform cX4_perform 4 (some .int) 0 := ⟨⟨_, rfl⟩, rfl, rfl, by decide +kernel, by decide +kernel, by decide +kernel⟩
set_option maxHeartbeats 4000000 in
set_option maxRecDepth 10000 in
theorem kX4_perform (l : Launch) (D : va_G) (cI cC cS : ClassId) (h : Nat) (ad : Nat → Nat) (σ α ς β τ q : Int → Int) (le : Int)  (e7 : q 7 = le) (bY : Iv σ) (bk : 0 ≤ q 5 ∧ q 5 ≤ 4) (ble : 0 ≤ le ∧ le ≤ 60) (bt : ∀ x : Int, 0 ≤ x → x < le → 0 ≤ τ x ∧ τ x ≤ 65535) : Ki l yX4_perform wsX4_perform rX4_perform D (tz cI cC cS) [.ref h] (mW cI h ad σ α ς β τ q) (pfU τ σ le) (mW cI h ad (pfV τ σ le) (if wok τ le then σ else α) ς (if wok τ le ∧ ¬ (er τ σ le).2.2 < 0 then rcB β σ (q 5) else β) τ (pfQ τ σ q le)) := by
  have heb := er_b τ σ le ble.1
  refine q_entry (cc := cX4_perform) (nL := 4) (ret := (some .int)) (by decide) ⟨_, rfl⟩ (Nat.le_of_ble_eq_true rfl) ?_
  intro A pr en s m args below meth c C hin w ls hl
  have w := w
  have hl : lv_has ls 4 [(0, .ref h)] := hl
  refine q_aload_n C hl dX4_perform_0 rfl 0 rfl ?_
  refine q_iconst C dX4_perform_1 ?_
  by_cases c1 : wok τ le
  · have c1 := c1
    refine q_runi C w fr_all (q_V (As := [.int (jj 0)]) (rest := []) C w fr_all fX4_runs gX4_perform_X4_runs rfl ⟨Nat.le_of_ble_eq_true rfl, Nat.le_of_ble_eq_true rfl⟩ (kX4_runs0_ok l D cI cC cS h ad σ α ς β τ q le 0 e7 (by omega) (by omega) bt (by assumption) _) (q0 := 0) rfl rfl rfl rfl hl (Nat.le_of_ble_eq_true rfl) dX4_perform_2 ⟨Nat.le_refl 0, Nat.le_refl 0⟩) (fun H locs w => ?_)
    refine q_istore_n (lv' := [(1, .int (jj ((fin τ le).2 + 1))), (0, .ref h)]) C hl dX4_perform_5 rfl (by decide) rfl (fun ls hl => ?_)
    refine q_aload_n C hl dX4_perform_6 rfl 1 rfl ?_
    refine q_getM (v := .int (jj 0)) C w.1 (fun w h => List.mem_cons_of_mem _ (List.mem_append_right _ h)) 11 (by decide) (List.mem_of_getElem? (i := 1) rfl) rfl dX4_perform_7 ?_
    refine q_if_eq (tgt := 21) C dX4_perform_10 (by decide) ⟨by omega, by omega⟩ (fun _ => ?_) (fun z => absurd z (by omega))
    refine q_aload_n C hl dX4_perform_21 rfl 1 rfl ?_
    refine q_runv C w fr_all (q_V (As := []) (rest := []) C w fr_all fX4_looks gX4_perform_X4_looks rfl ⟨Nat.le_of_ble_eq_true rfl, Nat.le_of_ble_eq_true rfl⟩ (kX4_looks l D cI cC cS h ad σ α ς β τ (up (rq τ q le (fin τ le).1) 15 0)   _) (q0 := 0) rfl rfl rfl rfl hl (Nat.le_of_ble_eq_true rfl) dX4_perform_22 ⟨Nat.le_refl 0, Nat.le_refl 0⟩) (fun H locs w => ?_)
    refine q_aload_n C hl dX4_perform_25 rfl 1 rfl ?_
    refine q_iconst C dX4_perform_26 ?_
    refine q_runi C w fr_all (q_V (As := [.int (jj 1)]) (rest := []) C w fr_all fX4_runs gX4_perform_X4_runs rfl ⟨Nat.le_of_ble_eq_true rfl, Nat.le_of_ble_eq_true rfl⟩ (kX4_runs1 l D cI cC cS h ad σ σ ς β τ (up (rq τ q le (fin τ le).1) 15 0) le 1 e7 (by omega) (by omega) bt (by assumption) bY _) (q0 := 0) rfl rfl rfl rfl hl (Nat.le_of_ble_eq_true rfl) dX4_perform_27 ⟨Nat.le_refl 0, Nat.le_refl 0⟩) (fun H locs w => ?_)
    refine q_istore_n (lv' := [(2, .int (jj ((er τ σ le).2.1))), (1, .int (jj ((fin τ le).2 + 1))), (0, .ref h)]) C hl dX4_perform_30 rfl (by decide) rfl (fun ls hl => ?_)
    refine q_aload_n C hl dX4_perform_31 rfl 2 rfl ?_
    refine q_getM (v := .int (jj ((er τ σ le).2.2))) C w.1 (fun w h => List.mem_cons_of_mem _ (List.mem_append_right _ h)) 15 (by decide) (List.mem_of_getElem? (i := 3) rfl) rfl dX4_perform_32 ?_
    refine q_if_ge (tgt := 80) C dX4_perform_35 (by decide) ⟨by omega, by omega⟩ (fun c3 => ?_) (fun c3 => ?_)
    · have c3 := c3
      refine q_aload_n C hl dX4_perform_80 rfl 2 rfl ?_
      refine q_runv C w fr_all (q_V (As := []) (rest := []) C w fr_all fX4_records gX4_perform_X4_records rfl ⟨Nat.le_of_ble_eq_true rfl, Nat.le_of_ble_eq_true rfl⟩ (kX4_records l D cI cC cS h ad ((er τ σ le).1) σ ς β τ (up (rq τ (up (rq τ q le (fin τ le).1) 15 0) le (lastP τ σ le)) 15 (er τ σ le).2.2)  bk _) (q0 := 0) rfl rfl rfl rfl hl (Nat.le_of_ble_eq_true rfl) dX4_perform_81 ⟨Nat.le_refl 0, Nat.le_refl 0⟩) (fun H locs w => ?_)
      refine q_iload_n C hl dX4_perform_84 rfl 0 rfl ?_
      exact q_iret C w dX4_perform_85 (by unfold pfU; rw [if_pos (by assumption), if_neg (by omega)]) (by have hb : wok τ le := (by assumption); have hb3 : ¬ (er τ σ le).2.2 < 0 := (by omega); have hb2 : wok τ le ∧ ¬ (er τ σ le).2.2 < 0 := ⟨hb, hb3⟩; unfold pfV pfQ; simp only [if_pos hb, if_neg hb3, if_pos hb2]; rfl)
    · have c3 := c3
      refine q_aload_n C hl dX4_perform_38 rfl 2 rfl ?_
      refine q_iload_n C hl dX4_perform_39 rfl 0 rfl ?_
      refine q_putM C w (fun w h => List.mem_cons_of_mem _ (List.mem_append_right _ h)) 8 (by decide) (List.mem_of_getElem? (i := 4) rfl) rfl rfl rfl rfl dX4_perform_40 (mP8 cI h ad _ _ _ _ _ _ _) (fun H locs w => ?_)
      refine q_aload_n C hl dX4_perform_43 rfl 2 rfl ?_
      refine q_aload_n C hl dX4_perform_44 rfl 2 rfl ?_
      refine q_getM (v := .int (jj ((er τ σ le).2.2))) C w.1 (fun w h => List.mem_cons_of_mem _ (List.mem_append_right _ h)) 15 (by decide) (List.mem_of_getElem? (i := 3) rfl) rfl dX4_perform_45 ?_
      refine q_putM C w (fun w h => List.mem_cons_of_mem _ (List.mem_append_right _ h)) 9 (by decide) (List.mem_of_getElem? (i := 5) rfl) rfl rfl rfl rfl dX4_perform_48 (mP9 cI h ad _ _ _ _ _ _ _) (fun H locs w => ?_)
      refine q_iconst C dX4_perform_51 ?_
      refine q_istore_n (lv' := [(3, .int (jj 0)), (2, .int (jj ((er τ σ le).2.1))), (1, .int (jj ((fin τ le).2 + 1))), (0, .ref h)]) C hl dX4_perform_52 rfl (by decide) rfl (fun ls hl => ?_)
      have loop53 : ∀ (n53 : Nat) (i : Int), (0 ≤ i) → (i ≤ 109) → (109 - i).toNat < n53 → ∀ (H : Heap) (locs : List Loc), Wd D A s (mW cI h ad (lk σ (er τ σ le).1 i) σ ς β τ (up (up (up (rq τ (up (rq τ q le (fin τ le).1) 15 0) le (lastP τ σ le)) 15 (er τ σ le).2.2) 8 ((er τ σ le).2.1)) 9 ((er τ σ le).2.2))) H locs → ∀ ls : Array Slot, lv_has ls 4 [(0, .ref h), (1, .int (jj ((fin τ le).2 + 1))), (2, .int (jj ((er τ σ le).2.1))), (3, .int (jj i))] → W pr l en rX4_perform s m args below meth c H locs 0 0 (MQ below (Qi D (tz cI cC cS) (pfU τ σ le) (mW cI h ad (pfV τ σ le) (if wok τ le then σ else α) ς (if wok τ le ∧ ¬ (er τ σ le).2.2 < 0 then rcB β σ (q 5) else β) τ (pfQ τ σ q le)) A) args s 0 0 A) (F0 m 53 ls []) := by
        intro n53
        induction n53 with
        | zero => intro i hi0 hi1 hm; exact absurd hm (Nat.not_lt_zero _)
        | succ n53 ih53 =>
          intro i hi0 hi1 hm53 H locs w ls hl
          refine q_iload_n C hl dX4_perform_53 rfl 3 rfl ?_
          refine q_bipush C dX4_perform_54 (by decide) ?_
          refine q_icmp_ge (tgt := 77) C dX4_perform_56 (by decide) ⟨by omega, by omega⟩ ⟨by omega, by omega⟩ (fun c4 => ?_) (fun c4 => ?_)
          · have c4 := c4
            have w : Wd D A s (mW cI h ad σ σ ς β τ (up (up (up (rq τ (up (rq τ q le (fin τ le).1) 15 0) le (lastP τ σ le)) 15 (er τ σ le).2.2) 8 ((er τ σ le).2.1)) 9 ((er τ σ le).2.2))) H locs := wd_mcong (fun k h0 h1 => by unfold lk; rw [if_pos (by omega)]) (fun k _ _ => rfl) (fun k _ _ => rfl) w
            refine q_bipush C dX4_perform_77 (by decide) ?_
            exact q_iret C w dX4_perform_79 (by unfold pfU; rw [if_pos (by assumption), if_pos (by omega)]) (by have hb : wok τ le := (by assumption); have hb3 : (er τ σ le).2.2 < 0 := (by omega); have hb2 : ¬ (wok τ le ∧ ¬ (er τ σ le).2.2 < 0) := (fun z => z.2 hb3); unfold pfV pfQ; simp only [if_pos hb, if_pos hb3, if_neg hb2]; rfl)
          · have c4 := c4
            refine q_aload_n C hl dX4_perform_59 rfl 0 rfl ?_
            refine q_getM C w.1 (fun w h => List.mem_cons_of_mem _ (List.mem_append_right _ h)) 0 (by decide) (List.mem_of_getElem? (i := 6) rfl) rfl dX4_perform_60 ?_
            refine q_iload_n C hl dX4_perform_63 rfl 3 rfl ?_
            refine q_aload_n C hl dX4_perform_64 rfl 0 rfl ?_
            refine q_getM C w.1 (fun w h => List.mem_cons_of_mem _ (List.mem_append_right _ h)) 1 (by decide) (List.mem_of_getElem? (i := 7) rfl) rfl dX4_perform_65 ?_
            refine q_iload_n C hl dX4_perform_68 rfl 3 rfl ?_
            refine q_iald (n := 109) (f := σ) C w.1 2 0 rfl rfl ⟨by omega, by omega, by omega⟩ dX4_perform_69 ?_
            refine q_Mst C w ⟨by omega, by omega⟩ dX4_perform_70 (fun H locs w => ?_)
            refine q_iinc (lv' := [(3, .int (jj (i + 1))), (0, .ref h), (1, .int (jj ((fin τ le).2 + 1))), (2, .int (jj ((er τ σ le).2.1)))]) C hl dX4_perform_71 3 rfl (by decide) rfl (fun ls hl => ?_)
            refine q_goto (tgt := 53) C dX4_perform_74 (by decide) ?_
            exact ih53 (i + 1) (by omega) (by omega) (by omega) _ _ (by rw [lk_s σ _ hi0] at w; exact w) ls (lv_sub hl [1, 2, 3, 0] rfl)
      exact loop53 _ 0 (by omega) (by omega) (Nat.lt_succ_self _) _ _ (by rw [lk_0]; exact w) ls (lv_sub hl [3, 2, 1, 0] rfl)
  · have c1 := c1
    refine q_runi C w fr_all (q_V (As := [.int (jj 0)]) (rest := []) C w fr_all fX4_runs gX4_perform_X4_runs rfl ⟨Nat.le_of_ble_eq_true rfl, Nat.le_of_ble_eq_true rfl⟩ (kX4_runs0_bad l D cI cC cS h ad σ α ς β τ q le 0 e7 (by omega) (by omega) bt (by assumption) _) (q0 := 0) rfl rfl rfl rfl hl (Nat.le_of_ble_eq_true rfl) dX4_perform_2 ⟨Nat.le_refl 0, Nat.le_refl 0⟩) (fun H locs w => ?_)
    refine q_istore_n (lv' := [(1, .int (jj ((fin τ le).2 + 1))), (0, .ref h)]) C hl dX4_perform_5 rfl (by decide) rfl (fun ls hl => ?_)
    refine q_aload_n C hl dX4_perform_6 rfl 1 rfl ?_
    refine q_getM (v := .int (jj 1)) C w.1 (fun w h => List.mem_cons_of_mem _ (List.mem_append_right _ h)) 11 (by decide) (List.mem_of_getElem? (i := 1) rfl) rfl dX4_perform_7 ?_
    refine q_if_eq (tgt := 21) C dX4_perform_10 (by decide) ⟨by omega, by omega⟩ (fun z => absurd z (by omega)) (fun _ => ?_)
    refine q_bipush C dX4_perform_13 (by decide) ?_
    refine q_aload_n C hl dX4_perform_15 rfl 1 rfl ?_
    refine q_getM (v := .int (jj (flt τ le))) C w.1 (fun w h => List.mem_cons_of_mem _ (List.mem_append_right _ h)) 10 (by decide) (List.mem_of_getElem? (i := 2) rfl) rfl dX4_perform_16 ?_
    refine q_isub C dX4_perform_19 ?_
    exact q_iret C w dX4_perform_20 (by unfold pfU; rw [if_neg (by assumption)]) (by have hb : ¬ wok τ le := (by assumption); have hb2 : ¬ (wok τ le ∧ ¬ (er τ σ le).2.2 < 0) := (fun z => hb z.1); unfold pfV pfQ; simp only [if_neg hb, if_neg hb2])
