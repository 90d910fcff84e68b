def rX4_gusts : Room := { frames := 7, cells := 0, slots := 0, locals := 157 }
theorem fX4_gusts : Fc yX4_gusts wsX4_gusts rX4_gusts cX4_gusts 5 (some .int) 2 := ⟨⟨_, rfl⟩, rfl, rfl, by decide +kernel, by decide +kernel, by decide +kernel⟩
set_option maxHeartbeats 4000000 in
set_option maxRecDepth 10000 in
theorem kX4_gusts (l : Launch) (D : va_G) (cI cC cS : ClassId) (h : Nat) (ad : Nat → Nat) (σ α ς β τ q : Int → Int) (d side : Int) (bW : Wi σ) (bE : We σ) (bP : ∀ x : Int, 0 ≤ x → x < σ 0 → 10 ≤ σ (13 + 6 * x + 2) ∧ σ (13 + 6 * x + 2) ≤ 999) (bd : 1 ≤ d ∧ d ≤ 99) (bs : 0 ≤ side ∧ side ≤ 2) : Ki l yX4_gusts wsX4_gusts rX4_gusts D (tz cI cC cS) [.ref h, .int (jj d), .int (jj side)] (mW cI h ad σ α ς β τ q) (gur σ d side) (mW cI h ad (gus σ d side) α ς β τ q) := by
  have hn := bW.1
  have hn2 := bW.2.1
  refine q_entry (cc := cX4_gusts) (nL := 5) (ret := (some .int)) (by decide) ⟨_, rfl⟩ (Nat.le_of_ble_eq_true rfl) ?_
  intro A pr en s m args below meth c C hin w ls hl
  have w := w
  have hl : lv_has ls 5 [(0, .ref h), (1, .int (jj d)), (2, .int (jj side))] := hl
  refine q_aload_n C hl dX4_gusts_0 rfl 0 rfl ?_
  refine q_getM C w.1 (fun w h => List.mem_cons_of_mem _ (List.mem_append_right _ h)) 0 (by decide) (List.mem_of_getElem? (i := 1) rfl) rfl dX4_gusts_1 ?_
  refine q_iconst C dX4_gusts_4 ?_
  refine q_Mld C w.1 ⟨by omega, by omega⟩ dX4_gusts_5 ?_
  refine q_if_ne (tgt := 12) C dX4_gusts_6 (by decide) ⟨by omega, by omega⟩ (fun c1 => ?_) (fun c1 => ?_)
  · have c1 := c1
    refine q_iconst C dX4_gusts_12 ?_
    refine q_istore_n (lv' := [(3, .int (jj 0)), (0, .ref h), (1, .int (jj d)), (2, .int (jj side))]) C hl dX4_gusts_13 rfl (by decide) rfl (fun ls hl => ?_)
    have loop14 : ∀ (n14 : Nat) (i : Int), (0 ≤ i) → (i ≤ σ 0) → (σ 0 - i).toNat < n14 → ∀ (H : Heap) (locs : List Loc), Wd D A s (mW cI h ad (gw σ d side i) α ς β τ q) H locs → ∀ ls : Array Slot, lv_has ls 5 [(0, .ref h), (1, .int (jj d)), (2, .int (jj side)), (3, .int (jj i))] → W pr l en rX4_gusts s m args below meth c H locs 0 0 (MQ below (Qi D (tz cI cC cS) (gur σ d side) (mW cI h ad (gus σ d side) α ς β τ q) A) args s 0 0 A) (F0 m 14 ls []) := by
      intro n14
      induction n14 with
      | zero => intro i hi0 hi1 hm; exact absurd hm (Nat.not_lt_zero _)
      | succ n14 ih14 =>
        intro i hi0 hi1 hm14 H locs w ls hl
        have e0 : gw σ d side i 0 = σ 0 := gw_n σ d side i (by omega)
        refine q_iload_n C hl dX4_gusts_14 rfl 3 rfl ?_
        refine q_aload_n C hl dX4_gusts_15 rfl 0 rfl ?_
        refine q_getM C w.1 (fun w h => List.mem_cons_of_mem _ (List.mem_append_right _ h)) 0 (by decide) (List.mem_of_getElem? (i := 1) rfl) rfl dX4_gusts_16 ?_
        refine q_iconst C dX4_gusts_19 ?_
        refine q_Mld C w.1 ⟨by omega, by omega⟩ dX4_gusts_20 ?_
        refine q_icmp_ge (tgt := 47) C dX4_gusts_21 (by decide) ⟨by omega, by omega⟩ ⟨by omega, by omega⟩ (fun c2 => ?_) (fun c2 => ?_)
        · have c2 := c2
          refine q_iconst C dX4_gusts_47 ?_
          refine q_istore_n (lv' := [(3, .int (jj 0)), (0, .ref h), (1, .int (jj d)), (2, .int (jj side))]) C hl dX4_gusts_48 rfl (by decide) rfl (fun ls hl => ?_)
          refine q_aload_n C hl dX4_gusts_49 rfl 1 rfl ?_
          refine q_getM C w.1 (fun w h => List.mem_cons_of_mem _ (List.mem_append_right _ h)) 0 (by decide) (List.mem_of_getElem? (i := 1) rfl) rfl dX4_gusts_50 ?_
          refine q_iconst C dX4_gusts_53 ?_
          refine q_Mld C w.1 ⟨by omega, by omega⟩ dX4_gusts_54 ?_
          refine q_iconst C dX4_gusts_55 ?_
          refine q_isub C dX4_gusts_56 ?_
          refine q_istore (lv' := [(4, .int (jj (((gw σ d side i) 0) - 1))), (3, .int (jj 0)), (0, .ref h), (1, .int (jj d)), (2, .int (jj side))]) C hl dX4_gusts_57 (by decide) rfl (fun ls hl => ?_)
          have loop59 : ∀ (n59 : Nat) (j : Int) (cnt : Int) (i4 : Int), (0 ≤ j) → (j ≤ σ 0) → (cnt = σ 0 - rms goes (σ 0) (gw σ d side (σ 0)) j 0) → (i4 = σ 0 - 1 - j) → (σ 0 - j).toNat < n59 → ∀ (H : Heap) (locs : List Loc), Wd D A s (mW cI h ad (rms goes (σ 0) (gw σ d side (σ 0)) j) α ς β τ q) H locs → ∀ ls : Array Slot, lv_has ls 5 [(0, .ref h), (1, .int (jj d)), (2, .int (jj side)), (3, .int (jj cnt)), (4, .int (jj i4))] → W pr l en rX4_gusts s m args below meth c H locs 0 0 (MQ below (Qi D (tz cI cC cS) (gur σ d side) (mW cI h ad (gus σ d side) α ς β τ q) A) args s 0 0 A) (F0 m 59 ls []) := by
            intro n59
            induction n59 with
            | zero => intro j cnt i4 hj0 hj1 hc hi4 hm; exact absurd hm (Nat.not_lt_zero _)
            | succ n59 ih59 =>
              intro j cnt i4 hj0 hj1 hc hi4 hm59 H locs w ls hl
              have hR := rms_i goes_ok (σ := gw σ d side (σ 0)) (n := σ 0) (gw_n σ d side (σ 0) (by omega)) hn2 j hj0 hj1
              refine q_iload C hl dX4_gusts_59 4 rfl ?_
              refine q_if_lt (tgt := 96) C dX4_gusts_61 (by decide) ⟨by omega, by omega⟩ (fun c3 => ?_) (fun c3 => ?_)
              · have c3 := c3
                refine q_aload_n C hl dX4_gusts_96 rfl 0 rfl ?_
                refine q_getM C w.1 (fun w h => List.mem_cons_of_mem _ (List.mem_append_right _ h)) 0 (by decide) (List.mem_of_getElem? (i := 1) rfl) rfl dX4_gusts_97 ?_
                refine q_iconst C dX4_gusts_100 ?_
                refine q_dup2 C dX4_gusts_101 rfl rfl ?_
                refine q_Mld C w.1 ⟨by omega, by omega⟩ dX4_gusts_102 ?_
                refine q_iload_n C hl dX4_gusts_103 rfl 3 rfl ?_
                refine q_iadd C dX4_gusts_104 ?_
                refine q_Mst C w ⟨by omega, by omega⟩ dX4_gusts_105 (fun H locs w => ?_)
                refine q_aload_n C hl dX4_gusts_106 rfl 0 rfl ?_
                refine q_getM C w.1 (fun w h => List.mem_cons_of_mem _ (List.mem_append_right _ h)) 0 (by decide) (List.mem_of_getElem? (i := 1) rfl) rfl dX4_gusts_107 ?_
                refine q_bipush C dX4_gusts_110 (by decide) ?_
                refine q_dup2 C dX4_gusts_112 rfl rfl ?_
                refine q_Mld C w.1 ⟨by omega, by omega⟩ dX4_gusts_113 ?_
                refine q_iconst C dX4_gusts_114 ?_
                refine q_iadd C dX4_gusts_115 ?_
                refine q_Mst C w ⟨by omega, by omega⟩ dX4_gusts_116 (fun H locs w => ?_)
                refine q_iload_n C hl dX4_gusts_117 rfl 3 rfl ?_
                exact q_iret C w dX4_gusts_118 (by unfold gur gR; rw [if_neg (by omega), hc, show j = σ 0 by omega]) (by unfold gus gR; rw [if_neg (by omega), hc, show j = σ 0 by omega])
              · have c3 := c3
                have f1 := hR.2.2 (13 + 6 * i4 + 1) (by omega) (by omega)
                have f2 := gw_y σ d side (σ 0) (q := i4) (by omega) (by omega)
                have f3 := wby_b bW (p := i4) (side := side) bd.1 bd.2 (bE i4 (by omega) (by omega)).1
                have f4 := hR.2.2 (13 + 6 * i4 + 2) (by omega) (by omega)
                have f5 := gw_n σ d side (σ 0) (k := 13 + 6 * i4 + 2) (by omega)
                have f6 := bP i4 (by omega) (by omega)
                refine q_aload_n C hl dX4_gusts_64 rfl 0 rfl ?_
                refine q_iload C hl dX4_gusts_65 4 rfl ?_
                refine q_iconst C dX4_gusts_67 ?_
                refine q_runi C w fr_all (q_V (As := [.int (jj i4), .int (jj 1)]) (rest := []) C w fr_all fX4_of gX4_gusts_X4_of rfl ⟨Nat.le_of_ble_eq_true rfl, Nat.le_of_ble_eq_true rfl⟩ (kX4_of l D cI cC cS h ad (rms goes (σ 0) (gw σ d side (σ 0)) j) α ς β τ q i4 1 (by omega) (by omega) _) (q0 := 0) rfl rfl rfl rfl hl (Nat.le_of_ble_eq_true rfl) dX4_gusts_68 ⟨Nat.le_refl 0, Nat.le_refl 0⟩) (fun H locs w => ?_)
                refine q_aload_n C hl dX4_gusts_71 rfl 0 rfl ?_
                refine q_iload C hl dX4_gusts_72 4 rfl ?_
                refine q_iconst C dX4_gusts_74 ?_
                refine q_runi C w fr_all (q_V (As := [.int (jj i4), .int (jj 2)]) (rest := [.int (jj ((rms goes (σ 0) (gw σ d side (σ 0)) j) (13 + 6 * i4 + 1)))]) C w fr_all fX4_of gX4_gusts_X4_of rfl ⟨Nat.le_of_ble_eq_true rfl, Nat.le_of_ble_eq_true rfl⟩ (kX4_of l D cI cC cS h ad (rms goes (σ 0) (gw σ d side (σ 0)) j) α ς β τ q i4 2 (by omega) (by omega) _) (q0 := 0) rfl rfl rfl rfl hl (Nat.le_of_ble_eq_true rfl) dX4_gusts_75 ⟨Nat.le_refl 0, Nat.le_refl 0⟩) (fun H locs w => ?_)
                refine q_icmp_le (tgt := 90) C dX4_gusts_78 (by decide) ⟨by omega, by omega⟩ ⟨by omega, by omega⟩ (fun c4 => ?_) (fun c4 => ?_)
                · have c4 := c4
                  refine q_iinc (lv' := [(4, .int (jj (i4 + (-1)))), (0, .ref h), (1, .int (jj d)), (2, .int (jj side)), (3, .int (jj cnt))]) C hl dX4_gusts_90 4 rfl (by decide) rfl (fun ls hl => ?_)
                  refine q_goto (tgt := 59) C dX4_gusts_93 (by decide) ?_
                  exact ih59 (j + 1) cnt (i4 + (-1)) (by omega) (by omega) (by rw [rms_s goes (σ 0) _ hj0]; unfold rmf; rw [show σ 0 - 1 - j = i4 by omega]; first | (rw [if_pos (by omega), goes_0 _ _ (by omega)]; omega) | (rw [if_neg (by omega)]; omega)) (by omega) (by omega) _ _ (by rw [rms_s goes (σ 0) _ hj0]; unfold rmf; rw [show σ 0 - 1 - j = i4 by omega]; first | (rw [if_pos (by omega)]; exact w) | (rw [if_neg (by omega)]; exact w)) ls (lv_sub hl [1, 2, 3, 4, 0] rfl)
                · have c4 := c4
                  refine q_aload_n C hl dX4_gusts_81 rfl 0 rfl ?_
                  refine q_iload C hl dX4_gusts_82 4 rfl ?_
                  refine q_runv C w fr_all (q_V (As := [.int (jj i4)]) (rest := []) C w fr_all fX4_goes gX4_gusts_X4_goes rfl ⟨Nat.le_of_ble_eq_true rfl, Nat.le_of_ble_eq_true rfl⟩ (kX4_goes l D cI cC cS h ad (rms goes (σ 0) (gw σ d side (σ 0)) j) α ς β τ q i4 (by omega) (by omega) _) (q0 := 0) rfl rfl rfl rfl hl (Nat.le_of_ble_eq_true rfl) dX4_gusts_84 ⟨Nat.le_refl 0, Nat.le_refl 0⟩) (fun H locs w => ?_)
                  refine q_iinc (lv' := [(3, .int (jj (cnt + 1))), (0, .ref h), (1, .int (jj d)), (2, .int (jj side)), (4, .int (jj i4))]) C hl dX4_gusts_87 3 rfl (by decide) rfl (fun ls hl => ?_)
                  refine q_iinc (lv' := [(4, .int (jj (i4 + (-1)))), (3, .int (jj (cnt + 1))), (0, .ref h), (1, .int (jj d)), (2, .int (jj side))]) C hl dX4_gusts_90 4 rfl (by decide) rfl (fun ls hl => ?_)
                  refine q_goto (tgt := 59) C dX4_gusts_93 (by decide) ?_
                  exact ih59 (j + 1) (cnt + 1) (i4 + (-1)) (by omega) (by omega) (by rw [rms_s goes (σ 0) _ hj0]; unfold rmf; rw [show σ 0 - 1 - j = i4 by omega]; first | (rw [if_pos (by omega), goes_0 _ _ (by omega)]; omega) | (rw [if_neg (by omega)]; omega)) (by omega) (by omega) _ _ (by rw [rms_s goes (σ 0) _ hj0]; unfold rmf; rw [show σ 0 - 1 - j = i4 by omega]; first | (rw [if_pos (by omega)]; exact w) | (rw [if_neg (by omega)]; exact w)) ls (lv_sub hl [2, 3, 4, 1, 0] rfl)
          exact loop59 _ 0 0 (gw σ d side i 0 - 1) (by omega) (by omega) (by rw [rms_0, gw_n σ d side (σ 0) (by omega)]; omega) (by omega) (Nat.lt_succ_self _) _ _ (by rw [show i = σ 0 by omega] at w; exact w) ls (lv_sub hl [2, 3, 4, 1, 0] rfl)
        · have c2 := c2
          have hq := bE i hi0 (by omega)
          have e1 : gw σ d side i (13 + 6 * i + 1) = σ (13 + 6 * i + 1) := gw_n σ d side i (by omega)
          refine q_aload_n C hl dX4_gusts_24 rfl 0 rfl ?_
          refine q_getM C w.1 (fun w h => List.mem_cons_of_mem _ (List.mem_append_right _ h)) 0 (by decide) (List.mem_of_getElem? (i := 1) rfl) rfl dX4_gusts_25 ?_
          refine q_iload_n C hl dX4_gusts_28 rfl 3 rfl ?_
          refine q_iconst C dX4_gusts_29 ?_
          refine q_runi C w fr_nil (q_S (As := [.int (jj i), .int (jj 1)]) (rest := [.ref (ad 0)]) C w fr_nil fX4_at gX4_gusts_X4_at ⟨Nat.le_of_ble_eq_true rfl, Nat.le_of_ble_eq_true rfl⟩ (kX4_at l D cI cC cS i 1  _) rfl rfl hl (Nat.le_of_ble_eq_true rfl) dX4_gusts_30 ⟨Nat.le_refl 0, Nat.le_refl 0⟩) (fun H locs w => ?_)
          refine q_aload_n C hl dX4_gusts_33 rfl 0 rfl ?_
          refine q_iload_n C hl dX4_gusts_34 rfl 3 rfl ?_
          refine q_iload_n C hl dX4_gusts_35 rfl 1 rfl ?_
          refine q_iload_n C hl dX4_gusts_36 rfl 2 rfl ?_
          refine q_runi C w fr_all (q_V (As := [.int (jj i), .int (jj d), .int (jj side)]) (rest := [.int (jj (13 + 6 * i + 1)), .ref (ad 0)]) C w fr_all fX4_wetBy gX4_gusts_X4_wetBy rfl ⟨Nat.le_of_ble_eq_true rfl, Nat.le_of_ble_eq_true rfl⟩ (kX4_wetBy l D cI cC cS h ad (gw σ d side i) α ς β τ q i d side (gw_W bW d side i) (by omega) (by omega) (by omega) (by omega) _) (q0 := 0) rfl rfl rfl rfl hl (Nat.le_of_ble_eq_true rfl) dX4_gusts_37 ⟨Nat.le_refl 0, Nat.le_refl 0⟩) (fun H locs w => ?_)
          refine q_Mst C w ⟨by omega, by omega⟩ dX4_gusts_40 (fun H locs w => ?_)
          refine q_iinc (lv' := [(3, .int (jj (i + 1))), (0, .ref h), (1, .int (jj d)), (2, .int (jj side))]) C hl dX4_gusts_41 3 rfl (by decide) rfl (fun ls hl => ?_)
          refine q_goto (tgt := 14) C dX4_gusts_44 (by decide) ?_
          exact ih14 (i + 1) (by omega) (by omega) (by omega) _ _ (by rw [gw_s σ d side hi0] at w; exact w) ls (lv_sub hl [1, 2, 3, 0] rfl)
    exact loop14 _ 0 (by omega) (by omega) (Nat.lt_succ_self _) _ _ (by rw [gw_0]; exact w) ls (lv_sub hl [1, 2, 3, 0] rfl)
  · have c1 := c1
    refine q_bipush C dX4_gusts_9 (by decide) ?_
    exact q_iret C w dX4_gusts_11 (by unfold gur; rw [if_pos (by omega)]) (by unfold gus; rw [if_pos (by omega)])

def rX4_passes : Room := { frames := 2, cells := 0, slots := 0, locals := 43 }
theorem fX4_passes : Fc yX4_passes wsX4_passes rX4_passes cX4_passes 5 (some .int) 1 := ⟨⟨_, rfl⟩, rfl, rfl, by decide +kernel, by decide +kernel, by decide +kernel⟩
set_option maxHeartbeats 4000000 in
set_option maxRecDepth 10000 in
theorem kX4_passes (l : Launch) (D : va_G) (cI cC cS : ClassId) (h : Nat) (ad : Nat → Nat) (σ α ς β τ q : Int → Int) (mi : Int) (bn : 0 ≤ σ 0 ∧ σ 0 ≤ 16) (bE : We σ) (b10 : 0 ≤ σ 10 ∧ σ 10 ≤ 50) (b9 : 0 ≤ σ 9 ∧ σ 9 ≤ 99999) (bm : 1 ≤ mi ∧ mi ≤ 99) : Ki l yX4_passes wsX4_passes rX4_passes D (tz cI cC cS) [.ref h, .int (jj mi)] (mW cI h ad σ α ς β τ q) (pau σ mi) (mW cI h ad (pas σ mi) α ς β τ q) := by
  refine q_entry (cc := cX4_passes) (nL := 5) (ret := (some .int)) (by decide) ⟨_, rfl⟩ (Nat.le_of_ble_eq_true rfl) ?_
  intro A pr en s m args below meth c C hin w ls hl
  have w := w
  have hl : lv_has ls 5 [(0, .ref h), (1, .int (jj mi))] := hl
  refine q_aload_n C hl dX4_passes_0 rfl 0 rfl ?_
  refine q_getM C w.1 (fun w h => List.mem_cons_of_mem _ (List.mem_append_right _ h)) 0 (by decide) (List.mem_of_getElem? (i := 1) rfl) rfl dX4_passes_1 ?_
  refine q_bipush C dX4_passes_4 (by decide) ?_
  refine q_Mld C w.1 ⟨by omega, by omega⟩ dX4_passes_6 ?_
  refine q_iload_n C hl dX4_passes_7 rfl 1 rfl ?_
  refine q_iadd C dX4_passes_8 ?_
  refine lv_ldc (v := jj 99999) C.1 C.2.1 C.ho (C.ts _ (List.mem_of_getElem? (i := 2) rfl)) dX4_passes_9 ?_
  refine q_icmp_le (tgt := 17) C dX4_passes_11 (by decide) ⟨by omega, by omega⟩ ⟨by omega, by omega⟩ (fun c1 => ?_) (fun c1 => ?_)
  · have c1 := c1
    refine q_iconst C dX4_passes_17 ?_
    refine q_istore_n (lv' := [(2, .int (jj 0)), (0, .ref h), (1, .int (jj mi))]) C hl dX4_passes_18 rfl (by decide) rfl (fun ls hl => ?_)
    refine q_iconst C dX4_passes_19 ?_
    refine q_istore_n (lv' := [(3, .int (jj 0)), (2, .int (jj 0)), (0, .ref h), (1, .int (jj mi))]) C hl dX4_passes_20 rfl (by decide) rfl (fun ls hl => ?_)
    have loop21 : ∀ (n21 : Nat) (i : Int) (a : Int), (0 ≤ i) → (i ≤ σ 0) → (a = drn σ mi i ∧ 0 ≤ a ∧ a ≤ i) → (σ 0 - i).toNat < n21 → ∀ (H : Heap) (locs : List Loc), Wd D A s (mW cI h ad (dr σ mi i) α ς β τ q) H locs → ∀ ls : Array Slot, lv_has ls 5 [(0, .ref h), (1, .int (jj mi)), (2, .int (jj a)), (3, .int (jj i))] → W pr l en rX4_passes s m args below meth c H locs 0 0 (MQ below (Qi D (tz cI cC cS) (pau σ mi) (mW cI h ad (pas σ mi) α ς β τ q) A) args s 0 0 A) (F0 m 21 ls []) := by
      intro n21
      induction n21 with
      | zero => intro i a hi0 hi1 ha hm; exact absurd hm (Nat.not_lt_zero _)
      | succ n21 ih21 =>
        intro i a hi0 hi1 ha hm21 H locs w ls hl
        have e0 : dr σ mi i 0 = σ 0 := dr_n σ mi i (by omega)
        have e10 : dr σ mi i 10 = σ 10 := dr_n σ mi i (by omega)
        refine q_iload_n C hl dX4_passes_21 rfl 3 rfl ?_
        refine q_aload_n C hl dX4_passes_22 rfl 0 rfl ?_
        refine q_getM C w.1 (fun w h => List.mem_cons_of_mem _ (List.mem_append_right _ h)) 0 (by decide) (List.mem_of_getElem? (i := 1) rfl) rfl dX4_passes_23 ?_
        refine q_iconst C dX4_passes_26 ?_
        refine q_Mld C w.1 ⟨by omega, by omega⟩ dX4_passes_27 ?_
        refine q_icmp_ge (tgt := 89) C dX4_passes_28 (by decide) ⟨by omega, by omega⟩ ⟨by omega, by omega⟩ (fun c2 => ?_) (fun c2 => ?_)
        · have c2 := c2
          refine q_aload_n C hl dX4_passes_89 rfl 0 rfl ?_
          refine q_getM C w.1 (fun w h => List.mem_cons_of_mem _ (List.mem_append_right _ h)) 0 (by decide) (List.mem_of_getElem? (i := 1) rfl) rfl dX4_passes_90 ?_
          refine q_bipush C dX4_passes_93 (by decide) ?_
          refine q_dup2 C dX4_passes_95 rfl rfl ?_
          refine q_Mld C w.1 ⟨by omega, by omega⟩ dX4_passes_96 ?_
          refine q_iload_n C hl dX4_passes_97 rfl 1 rfl ?_
          refine q_iadd C dX4_passes_98 ?_
          refine q_Mst C w ⟨by omega, by omega⟩ dX4_passes_99 (fun H locs w => ?_)
          refine q_iload_n C hl dX4_passes_100 rfl 2 rfl ?_
          exact q_iret C w dX4_passes_101 (by unfold pau; rw [if_neg (by omega), ha.1, show i = σ 0 by omega]) (by unfold pas; rw [if_neg (by omega), show i = σ 0 by omega, dr_n σ mi (σ 0) (k := 9) (by omega)])
        · have c2 := c2
          have hq := bE i hi0 (by omega)
          have e1 : dr σ mi i (13 + 6 * i + 1) = σ (13 + 6 * i + 1) := dr_n σ mi i (by omega)
          have hm0 := mul_b (a := mi) (b := σ 10) (A := 99) (B := 50) (by omega) bm.2 b10.1 b10.2
          have hmm : mi * dr σ mi i 10 = mi * σ 10 := by rw [e10]
          refine q_aload_n C hl dX4_passes_31 rfl 0 rfl ?_
          refine q_iload_n C hl dX4_passes_32 rfl 3 rfl ?_
          refine q_iconst C dX4_passes_33 ?_
          refine q_runi C w fr_all (q_V (As := [.int (jj i), .int (jj 1)]) (rest := []) C w fr_all fX4_of gX4_passes_X4_of rfl ⟨Nat.le_of_ble_eq_true rfl, Nat.le_of_ble_eq_true rfl⟩ (kX4_of l D cI cC cS h ad (dr σ mi i) α ς β τ q i 1 (by omega) (by omega) _) (q0 := 0) rfl rfl rfl rfl hl (Nat.le_of_ble_eq_true rfl) dX4_passes_34 ⟨Nat.le_refl 0, Nat.le_refl 0⟩) (fun H locs w => ?_)
          refine q_iload_n C hl dX4_passes_37 rfl 1 rfl ?_
          refine q_aload_n C hl dX4_passes_38 rfl 0 rfl ?_
          refine q_getM C w.1 (fun w h => List.mem_cons_of_mem _ (List.mem_append_right _ h)) 0 (by decide) (List.mem_of_getElem? (i := 1) rfl) rfl dX4_passes_39 ?_
          refine q_bipush C dX4_passes_42 (by decide) ?_
          refine q_Mld C w.1 ⟨by omega, by omega⟩ dX4_passes_44 ?_
          refine q_imul C dX4_passes_45 ?_
          refine q_isub C dX4_passes_46 ?_
          refine q_istore (lv' := [(4, .int (jj (((dr σ mi i) (13 + 6 * i + 1)) - (mi * ((dr σ mi i) 10))))), (0, .ref h), (1, .int (jj mi)), (2, .int (jj a)), (3, .int (jj i))]) C hl dX4_passes_47 (by decide) rfl (fun ls hl => ?_)
          refine q_aload_n C hl dX4_passes_49 rfl 1 rfl ?_
          refine q_getM C w.1 (fun w h => List.mem_cons_of_mem _ (List.mem_append_right _ h)) 0 (by decide) (List.mem_of_getElem? (i := 1) rfl) rfl dX4_passes_50 ?_
          refine q_iload_n C hl dX4_passes_53 rfl 4 rfl ?_
          refine q_iconst C dX4_passes_54 ?_
          refine q_runi C w fr_nil (q_S (As := [.int (jj i), .int (jj 1)]) (rest := [.ref (ad 0)]) C w fr_nil fX4_at gX4_passes_X4_at ⟨Nat.le_of_ble_eq_true rfl, Nat.le_of_ble_eq_true rfl⟩ (kX4_at l D cI cC cS i 1  _) rfl rfl hl (Nat.le_of_ble_eq_true rfl) dX4_passes_55 ⟨Nat.le_refl 0, Nat.le_refl 0⟩) (fun H locs w => ?_)
          have join69 : ∀ (v : Int), (v = max 0 (σ (13 + 6 * i + 1) - mi * σ 10)) →  ∀ (H : Heap) (locs : List Loc), Wd D A s (mW cI h ad (dr σ mi i) α ς β τ q) H locs → ∀ ls : Array Slot, lv_has ls 5 [(0, .ref h), (1, .int (jj mi)), (2, .int (jj a)), (3, .int (jj i)), (4, .int (jj (((dr σ mi i) (13 + 6 * i + 1)) - (mi * ((dr σ mi i) 10)))))] → W pr l en rX4_passes s m args below meth c H locs 0 0 (MQ below (Qi D (tz cI cC cS) (pau σ mi) (mW cI h ad (pas σ mi) α ς β τ q) A) args s 0 0 A) (F0 m 69 ls [.int (jj v), .int (jj (13 + 6 * i + 1)), .ref (ad 0)]) := by
            intro v hv H locs w ls hl
            refine q_Mst C w ⟨by omega, by omega⟩ dX4_passes_69 (fun H locs w => ?_)
            refine q_iload_n C hl dX4_passes_70 rfl 2 rfl ?_
            refine q_iload C hl dX4_passes_71 4 rfl ?_
            refine q_if_gt (tgt := 80) C dX4_passes_73 (by decide) ⟨by omega, by omega⟩ (fun c3 => ?_) (fun c3 => ?_)
            · have c3 := c3
              refine q_iconst C dX4_passes_80 ?_
              refine q_iadd C dX4_passes_81 ?_
              refine q_istore_n (lv' := [(2, .int (jj (a + 0))), (0, .ref h), (1, .int (jj mi)), (3, .int (jj i)), (4, .int (jj (((dr σ mi i) (13 + 6 * i + 1)) - (mi * ((dr σ mi i) 10)))))]) C hl dX4_passes_82 rfl (by decide) rfl (fun ls hl => ?_)
              refine q_iinc (lv' := [(3, .int (jj (i + 1))), (2, .int (jj (a + 0))), (0, .ref h), (1, .int (jj mi)), (4, .int (jj (((dr σ mi i) (13 + 6 * i + 1)) - (mi * ((dr σ mi i) 10)))))]) C hl dX4_passes_83 3 rfl (by decide) rfl (fun ls hl => ?_)
              refine q_goto (tgt := 21) C dX4_passes_86 (by decide) ?_
              exact ih21 (i + 1) (a + 0) (by omega) (by omega) ⟨by rw [drn_s σ mi hi0, ← ha.1]; unfold bI; split <;> omega, by omega, by omega⟩ (by omega) _ _ (by rw [dr_s σ mi hi0 hv] at w; exact w) ls (lv_sub hl [2, 3, 1, 0] rfl)
            · have c3 := c3
              refine q_iconst C dX4_passes_76 ?_
              refine q_goto (tgt := 81) C dX4_passes_77 (by decide) ?_
              refine q_iadd C dX4_passes_81 ?_
              refine q_istore_n (lv' := [(2, .int (jj (a + 1))), (0, .ref h), (1, .int (jj mi)), (3, .int (jj i)), (4, .int (jj (((dr σ mi i) (13 + 6 * i + 1)) - (mi * ((dr σ mi i) 10)))))]) C hl dX4_passes_82 rfl (by decide) rfl (fun ls hl => ?_)
              refine q_iinc (lv' := [(3, .int (jj (i + 1))), (2, .int (jj (a + 1))), (0, .ref h), (1, .int (jj mi)), (4, .int (jj (((dr σ mi i) (13 + 6 * i + 1)) - (mi * ((dr σ mi i) 10)))))]) C hl dX4_passes_83 3 rfl (by decide) rfl (fun ls hl => ?_)
              refine q_goto (tgt := 21) C dX4_passes_86 (by decide) ?_
              exact ih21 (i + 1) (a + 1) (by omega) (by omega) ⟨by rw [drn_s σ mi hi0, ← ha.1]; unfold bI; split <;> omega, by omega, by omega⟩ (by omega) _ _ (by rw [dr_s σ mi hi0 hv] at w; exact w) ls (lv_sub hl [2, 3, 1, 0] rfl)
          refine q_iload C hl dX4_passes_58 0 rfl ?_
          refine q_if_ge (tgt := 67) C dX4_passes_60 (by decide) ⟨by omega, by omega⟩ (fun c4 => ?_) (fun c4 => ?_)
          · have c4 := c4
            refine q_iload C hl dX4_passes_67 0 rfl ?_
            exact join69 (((dr σ mi i) (13 + 6 * i + 1)) - (mi * ((dr σ mi i) 10))) (by omega) _ _ w ls (lv_sub hl [1, 2, 3, 4, 0] rfl)
          · have c4 := c4
            refine q_iconst C dX4_passes_63 ?_
            refine q_goto (tgt := 69) C dX4_passes_64 (by decide) ?_
            exact join69 0 (by omega) _ _ w ls (lv_sub hl [1, 2, 3, 4, 0] rfl)
    exact loop21 _ 0 0 (by omega) (by omega) ⟨rfl, by omega, by omega⟩ (Nat.lt_succ_self _) _ _ (by rw [dr_0]; exact w) ls (lv_sub hl [2, 3, 1, 0] rfl)
  · have c1 := c1
    refine q_bipush C dX4_passes_14 (by decide) ?_
    exact q_iret C w dX4_passes_16 (by unfold pau; rw [if_pos (by omega)]) (by unfold pas; rw [if_pos (by omega)])

def rX4_serves : Room := { frames := 4, cells := 0, slots := 0, locals := 86 }
theorem fX4_serves : Fc yX4_serves wsX4_serves rX4_serves cX4_serves 4 (some .int) 0 := ⟨⟨_, rfl⟩, rfl, rfl, by decide +kernel, by decide +kernel, by decide +kernel⟩
set_option maxHeartbeats 4000000 in
set_option maxRecDepth 10000 in
theorem kX4_serves (l : Launch) (D : va_G) (cI cC cS : ClassId) (h : Nat) (ad : Nat → Nat) (σ α ς β τ q : Int → Int)  (bn : 0 ≤ σ 0 ∧ σ 0 ≤ 16) (bv : 1 ≤ σ 11 ∧ σ 11 ≤ 4) (bf : 0 ≤ σ 12 ∧ σ 12 ≤ 99) (bE : We σ) (bc : ∀ x : Int, 0 ≤ x → x < σ 0 → 0 ≤ σ (13 + 6 * x + 3) ∧ σ (13 + 6 * x + 3) ≤ 9999) : Ki l yX4_serves wsX4_serves rX4_serves D (tz cI cC cS) [.ref h] (mW cI h ad σ α ς β τ q) (seu σ) (mW cI h ad (sev σ) α ς β τ q) := by
  refine q_entry (cc := cX4_serves) (nL := 4) (ret := (some .int)) (by decide) ⟨_, rfl⟩ (Nat.le_of_ble_eq_true rfl) ?_
  intro A pr en s m args below meth c C hin w ls hl
  have w := w
  have hl : lv_has ls 4 [(0, .ref h)] := hl
  refine q_aload_n C hl dX4_serves_0 rfl 0 rfl ?_
  refine q_getM C w.1 (fun w h => List.mem_cons_of_mem _ (List.mem_append_right _ h)) 0 (by decide) (List.mem_of_getElem? (i := 1) rfl) rfl dX4_serves_1 ?_
  refine q_iconst C dX4_serves_4 ?_
  refine q_Mld C w.1 ⟨by omega, by omega⟩ dX4_serves_5 ?_
  refine q_if_ne (tgt := 12) C dX4_serves_6 (by decide) ⟨by omega, by omega⟩ (fun c1 => ?_) (fun c1 => ?_)
  · have c1 := c1
    have hs := srv_b (σ := σ) (by omega) bv
    refine q_aload_n C hl dX4_serves_12 rfl 0 rfl ?_
    refine q_runi C w fr_all (q_V (As := []) (rest := []) C w fr_all fX4_served gX4_serves_X4_served rfl ⟨Nat.le_of_ble_eq_true rfl, Nat.le_of_ble_eq_true rfl⟩ (kX4_served l D cI cC cS h ad σ α ς β τ q  (by omega) (by omega) _) (q0 := 0) rfl rfl rfl rfl hl (Nat.le_of_ble_eq_true rfl) dX4_serves_13 ⟨Nat.le_refl 0, Nat.le_refl 0⟩) (fun H locs w => ?_)
    refine q_istore_n (lv' := [(1, .int (jj (srv σ))), (0, .ref h)]) C hl dX4_serves_16 rfl (by decide) rfl (fun ls hl => ?_)
    refine q_aload_n C hl dX4_serves_17 rfl 1 rfl ?_
    refine q_runi C w fr_all (q_V (As := []) (rest := []) C w fr_all fX4_coinsPaid gX4_serves_X4_coinsPaid rfl ⟨Nat.le_of_ble_eq_true rfl, Nat.le_of_ble_eq_true rfl⟩ (kX4_coinsPaid l D cI cC cS h ad σ α ς β τ q  (by omega) (by omega) (by omega) bE bc _) (q0 := 0) rfl rfl rfl rfl hl (Nat.le_of_ble_eq_true rfl) dX4_serves_18 ⟨Nat.le_refl 0, Nat.le_refl 0⟩) (fun H locs w => ?_)
    refine q_istore_n (lv' := [(2, .int (jj (cpd σ))), (1, .int (jj (srv σ))), (0, .ref h)]) C hl dX4_serves_21 rfl (by decide) rfl (fun ls hl => ?_)
    refine q_aload_n C hl dX4_serves_22 rfl 2 rfl ?_
    refine q_getM C w.1 (fun w h => List.mem_cons_of_mem _ (List.mem_append_right _ h)) 0 (by decide) (List.mem_of_getElem? (i := 1) rfl) rfl dX4_serves_23 ?_
    refine q_iconst C dX4_serves_26 ?_
    refine q_dup2 C dX4_serves_27 rfl rfl ?_
    refine q_Mld C w.1 ⟨by omega, by omega⟩ dX4_serves_28 ?_
    refine q_iload_n C hl dX4_serves_29 rfl 1 rfl ?_
    refine q_iadd C dX4_serves_30 ?_
    refine q_Mst C w ⟨by omega, by omega⟩ dX4_serves_31 (fun H locs w => ?_)
    refine q_aload_n C hl dX4_serves_32 rfl 2 rfl ?_
    refine q_getM C w.1 (fun w h => List.mem_cons_of_mem _ (List.mem_append_right _ h)) 0 (by decide) (List.mem_of_getElem? (i := 1) rfl) rfl dX4_serves_33 ?_
    refine q_iconst C dX4_serves_36 ?_
    refine q_dup2 C dX4_serves_37 rfl rfl ?_
    refine q_Mld C w.1 ⟨by omega, by omega⟩ dX4_serves_38 ?_
    refine q_iload_n C hl dX4_serves_39 rfl 0 rfl ?_
    refine q_iadd C dX4_serves_40 ?_
    refine q_Mst C w ⟨by omega, by omega⟩ dX4_serves_41 (fun H locs w => ?_)
    refine q_aload_n C hl dX4_serves_42 rfl 2 rfl ?_
    refine q_getM C w.1 (fun w h => List.mem_cons_of_mem _ (List.mem_append_right _ h)) 0 (by decide) (List.mem_of_getElem? (i := 1) rfl) rfl dX4_serves_43 ?_
    refine q_bipush C dX4_serves_46 (by decide) ?_
    refine q_dup2 C dX4_serves_48 rfl rfl ?_
    refine q_Mld C w.1 ⟨by omega, by omega⟩ dX4_serves_49 ?_
    refine q_iload_n C hl dX4_serves_50 rfl 1 rfl ?_
    refine q_aload_n C hl dX4_serves_51 rfl 2 rfl ?_
    refine q_getM C w.1 (fun w h => List.mem_cons_of_mem _ (List.mem_append_right _ h)) 0 (by decide) (List.mem_of_getElem? (i := 1) rfl) rfl dX4_serves_52 ?_
    refine q_bipush C dX4_serves_55 (by decide) ?_
    refine q_Mld C w.1 ⟨by omega, by omega⟩ dX4_serves_57 ?_
    refine q_imul C dX4_serves_58 ?_
    refine q_iload_n C hl dX4_serves_59 rfl 0 rfl ?_
    refine q_isub C dX4_serves_60 ?_
    refine q_iadd C dX4_serves_61 ?_
    refine q_Mst C w ⟨by omega, by omega⟩ dX4_serves_62 (fun H locs w => ?_)
    refine q_iconst C dX4_serves_63 ?_
    refine q_istore_n (lv' := [(3, .int (jj 0)), (2, .int (jj (cpd σ))), (1, .int (jj (srv σ))), (0, .ref h)]) C hl dX4_serves_64 rfl (by decide) rfl (fun ls hl => ?_)
    have loop65 : ∀ (n65 : Nat) (k : Int), (0 ≤ k) → (k ≤ srv σ) → (srv σ - k).toNat < n65 → ∀ (H : Heap) (locs : List Loc), Wd D A s (mW cI h ad (srs (sv3 σ) k) α ς β τ q) H locs → ∀ ls : Array Slot, lv_has ls 4 [(0, .ref h), (1, .int (jj (srv σ))), (2, .int (jj (cpd σ))), (3, .int (jj k))] → W pr l en rX4_serves s m args below meth c H locs 0 0 (MQ below (Qi D (tz cI cC cS) (seu σ) (mW cI h ad (sev σ) α ς β τ q) A) args s 0 0 A) (F0 m 65 ls []) := by
      intro n65
      induction n65 with
      | zero => intro k hk0 hk1 hm; exact absurd hm (Nat.not_lt_zero _)
      | succ n65 ih65 =>
        intro k hk0 hk1 hm65 H locs w ls hl
        have ez := srs_z (sv3 σ) k
        have e3 : sv3 σ 0 = σ 0 := by simp [sv3, sv2, sv1, up]
        refine q_iload_n C hl dX4_serves_65 rfl 3 rfl ?_
        refine q_iload_n C hl dX4_serves_66 rfl 1 rfl ?_
        refine q_icmp_ge (tgt := 81) C dX4_serves_67 (by decide) ⟨by omega, by omega⟩ ⟨by omega, by omega⟩ (fun c2 => ?_) (fun c2 => ?_)
        · have c2 := c2
          refine q_iload_n C hl dX4_serves_81 rfl 2 rfl ?_
          exact q_iret C w dX4_serves_82 (by unfold seu; rw [if_neg (by omega)]) (by unfold sev; rw [if_neg (by omega), show k = srv σ by omega])
        · have c2 := c2
          refine q_aload_n C hl dX4_serves_70 rfl 0 rfl ?_
          refine q_iconst C dX4_serves_71 ?_
          refine q_runv C w fr_all (q_V (As := [.int (jj 0)]) (rest := []) C w fr_all fX4_goes gX4_serves_X4_goes rfl ⟨Nat.le_of_ble_eq_true rfl, Nat.le_of_ble_eq_true rfl⟩ (kX4_goes l D cI cC cS h ad (srs (sv3 σ) k) α ς β τ q 0 (by omega) (by omega) _) (q0 := 0) rfl rfl rfl rfl hl (Nat.le_of_ble_eq_true rfl) dX4_serves_72 ⟨Nat.le_refl 0, Nat.le_refl 0⟩) (fun H locs w => ?_)
          refine q_iinc (lv' := [(3, .int (jj (k + 1))), (0, .ref h), (1, .int (jj (srv σ))), (2, .int (jj (cpd σ)))]) C hl dX4_serves_75 3 rfl (by decide) rfl (fun ls hl => ?_)
          refine q_goto (tgt := 65) C dX4_serves_78 (by decide) ?_
          exact ih65 (k + 1) (by omega) (by omega) (by omega) _ _ (by rw [srs_s (sv3 σ) hk0 (by omega)] at w; exact w) ls (lv_sub hl [1, 2, 3, 0] rfl)
    exact loop65 _ 0 (by omega) (by omega) (Nat.lt_succ_self _) _ _ (by rw [srs_0]; exact w) ls (lv_sub hl [3, 2, 1, 0] rfl)
  · have c1 := c1
    refine q_bipush C dX4_serves_9 (by decide) ?_
    exact q_iret C w dX4_serves_11 (by unfold seu; rw [if_pos (by omega)]) (by unfold sev; rw [if_pos (by omega)])

def rX4_arePair : Room := { frames := 2, cells := 0, slots := 0, locals := 43 }
theorem fX4_arePair : Fc yX4_arePair wsX4_arePair rX4_arePair cX4_arePair 2 (some .boolean) 1 := ⟨⟨_, rfl⟩, rfl, rfl, by decide +kernel, by decide +kernel, by decide +kernel⟩
set_option maxHeartbeats 4000000 in
set_option maxRecDepth 10000 in
theorem kX4_arePair (l : Launch) (D : va_G) (cI cC cS : ClassId) (h : Nat) (ad : Nat → Nat) (σ α ς β τ q : Int → Int) (p : Int) (b1 : Bd p) (bn : 0 ≤ σ 0 ∧ σ 0 ≤ 16) : Ki l yX4_arePair wsX4_arePair rX4_arePair D (tz cI cC cS) [.ref h, .int (jj p)] (mW cI h ad σ α ς β τ q) (bI (pair σ p)) (mW cI h ad σ α ς β τ q) := by
  refine q_entry (cc := cX4_arePair) (nL := 2) (ret := (some .boolean)) (by decide) ⟨_, rfl⟩ (Nat.le_of_ble_eq_true rfl) ?_
  intro A pr en s m args below meth c C hin w ls hl
  have w := w
  have hl : lv_has ls 2 [(0, .ref h), (1, .int (jj p))] := hl
  refine q_aload_n C hl dX4_arePair_0 rfl 0 rfl ?_
  refine q_iload_n C hl dX4_arePair_1 rfl 1 rfl ?_
  refine q_runi C w fr_all (q_V (As := [.int (jj p)]) (rest := []) C w fr_all fX4_isPlace gX4_arePair_X4_isPlace rfl ⟨Nat.le_of_ble_eq_true rfl, Nat.le_of_ble_eq_true rfl⟩ (kX4_isPlace l D cI cC cS h ad σ α ς β τ q p b1 (by omega) _) (q0 := 0) rfl rfl rfl rfl hl (Nat.le_of_ble_eq_true rfl) dX4_arePair_2 ⟨Nat.le_refl 0, Nat.le_refl 0⟩) (fun H locs w => ?_)
  refine q_ifz_eq (tgt := 22) C dX4_arePair_5 (by decide) (fun c1 => ?_) (fun c1 => ?_)
  · have c1 := c1
    refine q_iconst C dX4_arePair_22 ?_
    exact q_zret C w dX4_arePair_23 (by first | exact (bI_t (by omega)).symm | exact (bI_f (by omega)).symm) rfl
  · have c1 := c1
    refine q_aload_n C hl dX4_arePair_8 rfl 0 rfl ?_
    refine q_iload_n C hl dX4_arePair_9 rfl 1 rfl ?_
    refine q_iconst C dX4_arePair_10 ?_
    refine q_iadd C dX4_arePair_11 ?_
    refine q_runi C w fr_all (q_V (As := [.int (jj (p + 1))]) (rest := []) C w fr_all fX4_isPlace gX4_arePair_X4_isPlace rfl ⟨Nat.le_of_ble_eq_true rfl, Nat.le_of_ble_eq_true rfl⟩ (kX4_isPlace l D cI cC cS h ad σ α ς β τ q (p + 1) ⟨by omega, by omega⟩ (by omega) _) (q0 := 0) rfl rfl rfl rfl hl (Nat.le_of_ble_eq_true rfl) dX4_arePair_12 ⟨Nat.le_refl 0, Nat.le_refl 0⟩) (fun H locs w => ?_)
    refine q_ifz_eq (tgt := 22) C dX4_arePair_15 (by decide) (fun c2 => ?_) (fun c2 => ?_)
    · have c2 := c2
      refine q_iconst C dX4_arePair_22 ?_
      exact q_zret C w dX4_arePair_23 (by first | exact (bI_t (by omega)).symm | exact (bI_f (by omega)).symm) rfl
    · have c2 := c2
      refine q_iconst C dX4_arePair_18 ?_
      refine q_goto (tgt := 23) C dX4_arePair_19 (by decide) ?_
      exact q_zret C w dX4_arePair_23 (by first | exact (bI_t (by omega)).symm | exact (bI_f (by omega)).symm) rfl

def rX4_why : Room := { frames := 2, cells := 0, slots := 0, locals := 43 }
theorem fX4_why : Fc yX4_why wsX4_why rX4_why cX4_why 5 (some .int) 1 := ⟨⟨_, rfl⟩, rfl, rfl, by decide +kernel, by decide +kernel, by decide +kernel⟩
set_option maxHeartbeats 4000000 in
set_option maxRecDepth 10000 in
theorem kX4_why (l : Launch) (D : va_G) (cI cC cS : ClassId) (h : Nat) (ad : Nat → Nat) (σ α ς β τ q : Int → Int) (p : Int) (bp2 : 0 ≤ p ∧ p + 1 < σ 0) (bW : Wi σ) (bE : We σ) : Ki l yX4_why wsX4_why rX4_why D (tz cI cC cS) [.ref h, .int (jj p)] (mW cI h ad σ α ς β τ q) (why σ p) (mW cI h ad σ α ς β τ q) := by
  have hn2 := bW.2.1
  have hw1 := bW.2.2 p (by omega) (by omega)
  have hw2 := bW.2.2 (p + 1) (by omega) (by omega)
  have he1 := bE p (by omega) (by omega)
  have he2 := bE (p + 1) (by omega) (by omega)
  refine q_entry (cc := cX4_why) (nL := 5) (ret := (some .int)) (by decide) ⟨_, rfl⟩ (Nat.le_of_ble_eq_true rfl) ?_
  intro A pr en s m args below meth c C hin w ls hl
  have w := w
  have hl : lv_has ls 5 [(0, .ref h), (1, .int (jj p))] := hl
  refine q_aload_n C hl dX4_why_0 rfl 0 rfl ?_
  refine q_iload_n C hl dX4_why_1 rfl 1 rfl ?_
  refine q_iconst C dX4_why_2 ?_
  refine q_runi C w fr_all (q_V (As := [.int (jj p), .int (jj 4)]) (rest := []) C w fr_all fX4_of gX4_why_X4_of rfl ⟨Nat.le_of_ble_eq_true rfl, Nat.le_of_ble_eq_true rfl⟩ (kX4_of l D cI cC cS h ad σ α ς β τ q p 4 (by omega) (by omega) _) (q0 := 0) rfl rfl rfl rfl hl (Nat.le_of_ble_eq_true rfl) dX4_why_3 ⟨Nat.le_refl 0, Nat.le_refl 0⟩) (fun H locs w => ?_)
  refine q_istore_n (lv' := [(2, .int (jj (σ (13 + 6 * p + 4)))), (0, .ref h), (1, .int (jj p))]) C hl dX4_why_6 rfl (by decide) rfl (fun ls hl => ?_)
  refine q_aload_n C hl dX4_why_7 rfl 1 rfl ?_
  refine q_iload_n C hl dX4_why_8 rfl 2 rfl ?_
  refine q_iconst C dX4_why_9 ?_
  refine q_iadd C dX4_why_10 ?_
  refine q_iconst C dX4_why_11 ?_
  refine q_runi C w fr_all (q_V (As := [.int (jj (p + 1)), .int (jj 4)]) (rest := []) C w fr_all fX4_of gX4_why_X4_of rfl ⟨Nat.le_of_ble_eq_true rfl, Nat.le_of_ble_eq_true rfl⟩ (kX4_of l D cI cC cS h ad σ α ς β τ q (p + 1) 4 (by omega) (by omega) _) (q0 := 0) rfl rfl rfl rfl hl (Nat.le_of_ble_eq_true rfl) dX4_why_12 ⟨Nat.le_refl 0, Nat.le_refl 0⟩) (fun H locs w => ?_)
  refine q_istore_n (lv' := [(3, .int (jj (σ (13 + 6 * (p + 1) + 4)))), (2, .int (jj (σ (13 + 6 * p + 4)))), (0, .ref h), (1, .int (jj p))]) C hl dX4_why_15 rfl (by decide) rfl (fun ls hl => ?_)
  have join54 : ∀ (v : Int), (v = mor σ p ∧ -999 ≤ v ∧ v ≤ 999) →  ∀ (H : Heap) (locs : List Loc), Wd D A s (mW cI h ad σ α ς β τ q) H locs → ∀ ls : Array Slot, lv_has ls 5 [(0, .ref h), (1, .int (jj p)), (2, .int (jj (σ (13 + 6 * p + 4)))), (3, .int (jj (σ (13 + 6 * (p + 1) + 4))))] → W pr l en rX4_why s m args below meth c H locs 0 0 (MQ below (Qi D (tz cI cC cS) (why σ p) (mW cI h ad σ α ς β τ q) A) args s 0 0 A) (F0 m 54 ls [.int (jj v)]) := by
    intro v hv H locs w ls hl
    refine q_istore (lv' := [(4, .int (jj v)), (0, .ref h), (1, .int (jj p)), (2, .int (jj (σ (13 + 6 * p + 4)))), (3, .int (jj (σ (13 + 6 * (p + 1) + 4))))]) C hl dX4_why_54 (by decide) rfl (fun ls hl => ?_)
    refine q_iload_n C hl dX4_why_56 rfl 3 rfl ?_
    refine q_iload_n C hl dX4_why_57 rfl 4 rfl ?_
    refine q_icmp_ne (tgt := 65) C dX4_why_58 (by decide) ⟨by omega, by omega⟩ ⟨by omega, by omega⟩ (fun c1 => ?_) (fun c1 => ?_)
    · have c1 := c1
      refine q_iload_n C hl dX4_why_65 rfl 3 rfl ?_
      refine q_if_eq (tgt := 73) C dX4_why_66 (by decide) ⟨by omega, by omega⟩ (fun c2 => ?_) (fun c2 => ?_)
      · have c2 := c2
        refine q_iload C hl dX4_why_73 0 rfl ?_
        refine q_bipush C dX4_why_75 (by decide) ?_
        refine q_icmp_le (tgt := 84) C dX4_why_77 (by decide) ⟨by omega, by omega⟩ ⟨by omega, by omega⟩ (fun c3 => ?_) (fun c3 => ?_)
        · have c3 := c3
          refine q_iload C hl dX4_why_84 0 rfl ?_
          refine q_if_le (tgt := 93) C dX4_why_86 (by decide) ⟨by omega, by omega⟩ (fun c4 => ?_) (fun c4 => ?_)
          · have c4 := c4
            refine q_iconst C dX4_why_93 ?_
            exact q_iret C w dX4_why_94 (by unfold why; split <;> (try omega) <;> split <;> (try omega) <;> split <;> omega) rfl
          · have c4 := c4
            refine q_iconst C dX4_why_89 ?_
            refine q_goto (tgt := 94) C dX4_why_90 (by decide) ?_
            exact q_iret C w dX4_why_94 (by unfold why; split <;> (try omega) <;> split <;> (try omega) <;> split <;> omega) rfl
        · have c3 := c3
          refine q_iconst C dX4_why_80 ?_
          refine q_goto (tgt := 94) C dX4_why_81 (by decide) ?_
          exact q_iret C w dX4_why_94 (by unfold why; split <;> (try omega) <;> split <;> (try omega) <;> split <;> omega) rfl
      · have c2 := c2
        refine q_iload_n C hl dX4_why_69 rfl 4 rfl ?_
        refine q_if_ne (tgt := 84) C dX4_why_70 (by decide) ⟨by omega, by omega⟩ (fun c5 => ?_) (fun c5 => ?_)
        · have c5 := c5
          refine q_iload C hl dX4_why_84 0 rfl ?_
          refine q_if_le (tgt := 93) C dX4_why_86 (by decide) ⟨by omega, by omega⟩ (fun c6 => ?_) (fun c6 => ?_)
          · have c6 := c6
            refine q_iconst C dX4_why_93 ?_
            exact q_iret C w dX4_why_94 (by unfold why; split <;> (try omega) <;> split <;> (try omega) <;> split <;> omega) rfl
          · have c6 := c6
            refine q_iconst C dX4_why_89 ?_
            refine q_goto (tgt := 94) C dX4_why_90 (by decide) ?_
            exact q_iret C w dX4_why_94 (by unfold why; split <;> (try omega) <;> split <;> (try omega) <;> split <;> omega) rfl
        · have c5 := c5
          refine q_iload C hl dX4_why_73 0 rfl ?_
          refine q_bipush C dX4_why_75 (by decide) ?_
          refine q_icmp_le (tgt := 84) C dX4_why_77 (by decide) ⟨by omega, by omega⟩ ⟨by omega, by omega⟩ (fun c7 => ?_) (fun c7 => ?_)
          · have c7 := c7
            refine q_iload C hl dX4_why_84 0 rfl ?_
            refine q_if_le (tgt := 93) C dX4_why_86 (by decide) ⟨by omega, by omega⟩ (fun c8 => ?_) (fun c8 => ?_)
            · have c8 := c8
              refine q_iconst C dX4_why_93 ?_
              exact q_iret C w dX4_why_94 (by unfold why; split <;> (try omega) <;> split <;> (try omega) <;> split <;> omega) rfl
            · have c8 := c8
              refine q_iconst C dX4_why_89 ?_
              refine q_goto (tgt := 94) C dX4_why_90 (by decide) ?_
              exact q_iret C w dX4_why_94 (by unfold why; split <;> (try omega) <;> split <;> (try omega) <;> split <;> omega) rfl
          · have c7 := c7
            refine q_iconst C dX4_why_80 ?_
            refine q_goto (tgt := 94) C dX4_why_81 (by decide) ?_
            exact q_iret C w dX4_why_94 (by unfold why; split <;> (try omega) <;> split <;> (try omega) <;> split <;> omega) rfl
    · have c1 := c1
      refine q_iconst C dX4_why_61 ?_
      refine q_goto (tgt := 94) C dX4_why_62 (by decide) ?_
      exact q_iret C w dX4_why_94 (by unfold why; split <;> (try omega) <;> split <;> (try omega) <;> split <;> omega) rfl
  refine q_iload_n C hl dX4_why_16 rfl 1 rfl ?_
  refine q_iload_n C hl dX4_why_17 rfl 0 rfl ?_
  refine q_icmp_le (tgt := 39) C dX4_why_18 (by decide) ⟨by omega, by omega⟩ ⟨by omega, by omega⟩ (fun c9 => ?_) (fun c9 => ?_)
  · have c9 := c9
    refine q_aload_n C hl dX4_why_39 rfl 2 rfl ?_
    refine q_iload_n C hl dX4_why_40 rfl 3 rfl ?_
    refine q_iconst C dX4_why_41 ?_
    refine q_iadd C dX4_why_42 ?_
    refine q_iconst C dX4_why_43 ?_
    refine q_runi C w fr_all (q_V (As := [.int (jj (p + 1)), .int (jj 1)]) (rest := []) C w fr_all fX4_of gX4_why_X4_of rfl ⟨Nat.le_of_ble_eq_true rfl, Nat.le_of_ble_eq_true rfl⟩ (kX4_of l D cI cC cS h ad σ α ς β τ q (p + 1) 1 (by omega) (by omega) _) (q0 := 0) rfl rfl rfl rfl hl (Nat.le_of_ble_eq_true rfl) dX4_why_44 ⟨Nat.le_refl 0, Nat.le_refl 0⟩) (fun H locs w => ?_)
    refine q_aload_n C hl dX4_why_47 rfl 2 rfl ?_
    refine q_iload_n C hl dX4_why_48 rfl 3 rfl ?_
    refine q_iconst C dX4_why_49 ?_
    refine q_runi C w fr_all (q_V (As := [.int (jj p), .int (jj 1)]) (rest := [.int (jj (σ (13 + 6 * (p + 1) + 1)))]) C w fr_all fX4_of gX4_why_X4_of rfl ⟨Nat.le_of_ble_eq_true rfl, Nat.le_of_ble_eq_true rfl⟩ (kX4_of l D cI cC cS h ad σ α ς β τ q p 1 (by omega) (by omega) _) (q0 := 0) rfl rfl rfl rfl hl (Nat.le_of_ble_eq_true rfl) dX4_why_50 ⟨Nat.le_refl 0, Nat.le_refl 0⟩) (fun H locs w => ?_)
    refine q_isub C dX4_why_53 ?_
    exact join54 ((σ (13 + 6 * (p + 1) + 1)) - (σ (13 + 6 * p + 1))) ⟨by unfold mor; split <;> omega, by omega, by omega⟩ _ _ w ls (lv_sub hl [2, 3, 1, 0] rfl)
  · have c9 := c9
    refine q_aload_n C hl dX4_why_21 rfl 2 rfl ?_
    refine q_iload_n C hl dX4_why_22 rfl 3 rfl ?_
    refine q_iconst C dX4_why_23 ?_
    refine q_runi C w fr_all (q_V (As := [.int (jj p), .int (jj 1)]) (rest := []) C w fr_all fX4_of gX4_why_X4_of rfl ⟨Nat.le_of_ble_eq_true rfl, Nat.le_of_ble_eq_true rfl⟩ (kX4_of l D cI cC cS h ad σ α ς β τ q p 1 (by omega) (by omega) _) (q0 := 0) rfl rfl rfl rfl hl (Nat.le_of_ble_eq_true rfl) dX4_why_24 ⟨Nat.le_refl 0, Nat.le_refl 0⟩) (fun H locs w => ?_)
    refine q_aload_n C hl dX4_why_27 rfl 2 rfl ?_
    refine q_iload_n C hl dX4_why_28 rfl 3 rfl ?_
    refine q_iconst C dX4_why_29 ?_
    refine q_iadd C dX4_why_30 ?_
    refine q_iconst C dX4_why_31 ?_
    refine q_runi C w fr_all (q_V (As := [.int (jj (p + 1)), .int (jj 1)]) (rest := [.int (jj (σ (13 + 6 * p + 1)))]) C w fr_all fX4_of gX4_why_X4_of rfl ⟨Nat.le_of_ble_eq_true rfl, Nat.le_of_ble_eq_true rfl⟩ (kX4_of l D cI cC cS h ad σ α ς β τ q (p + 1) 1 (by omega) (by omega) _) (q0 := 0) rfl rfl rfl rfl hl (Nat.le_of_ble_eq_true rfl) dX4_why_32 ⟨Nat.le_refl 0, Nat.le_refl 0⟩) (fun H locs w => ?_)
    refine q_isub C dX4_why_35 ?_
    refine q_goto (tgt := 54) C dX4_why_36 (by decide) ?_
    exact join54 ((σ (13 + 6 * p + 1)) - (σ (13 + 6 * (p + 1) + 1))) ⟨by unfold mor; split <;> omega, by omega, by omega⟩ _ _ w ls (lv_sub hl [2, 3, 1, 0] rfl)

def rX4_exchange : Room := { frames := 2, cells := 0, slots := 0, locals := 43 }
theorem fX4_exchange : Fc yX4_exchange wsX4_exchange rX4_exchange cX4_exchange 4 none 2 := ⟨⟨_, rfl⟩, rfl, rfl, by decide +kernel, by decide +kernel, by decide +kernel⟩
set_option maxHeartbeats 4000000 in
set_option maxRecDepth 10000 in
theorem kX4_exchange (l : Launch) (D : va_G) (cI cC cS : ClassId) (h : Nat) (ad : Nat → Nat) (σ α ς β τ q : Int → Int) (p k : Int) (bp : 0 ≤ p ∧ p ≤ 14) (bk : 0 ≤ k ∧ k ≤ 5) : Kv l yX4_exchange wsX4_exchange rX4_exchange D (tz cI cC cS) [.ref h, .int (jj p), .int (jj k)] (mW cI h ad σ α ς β τ q) (mW cI h ad (xch σ p k) α ς β τ q) := by
  refine q_entry (cc := cX4_exchange) (nL := 4) (ret := none) (by decide) ⟨_, rfl⟩ (Nat.le_of_ble_eq_true rfl) ?_
  intro A pr en s m args below meth c C hin w ls hl
  have w := w
  have hl : lv_has ls 4 [(0, .ref h), (1, .int (jj p)), (2, .int (jj k))] := hl
  refine q_aload_n C hl dX4_exchange_0 rfl 0 rfl ?_
  refine q_iload_n C hl dX4_exchange_1 rfl 1 rfl ?_
  refine q_iload_n C hl dX4_exchange_2 rfl 2 rfl ?_
  refine q_runi C w fr_all (q_V (As := [.int (jj p), .int (jj k)]) (rest := []) C w fr_all fX4_of gX4_exchange_X4_of rfl ⟨Nat.le_of_ble_eq_true rfl, Nat.le_of_ble_eq_true rfl⟩ (kX4_of l D cI cC cS h ad σ α ς β τ q p k (by omega) (by omega) _) (q0 := 0) rfl rfl rfl rfl hl (Nat.le_of_ble_eq_true rfl) dX4_exchange_3 ⟨Nat.le_refl 0, Nat.le_refl 0⟩) (fun H locs w => ?_)
  refine q_istore_n (lv' := [(3, .int (jj (σ (13 + 6 * p + k)))), (0, .ref h), (1, .int (jj p)), (2, .int (jj k))]) C hl dX4_exchange_6 rfl (by decide) rfl (fun ls hl => ?_)
  refine q_aload_n C hl dX4_exchange_7 rfl 1 rfl ?_
  refine q_getM C w.1 (fun w h => List.mem_cons_of_mem _ (List.mem_append_right _ h)) 0 (by decide) (List.mem_of_getElem? (i := 1) rfl) rfl dX4_exchange_8 ?_
  refine q_iload_n C hl dX4_exchange_11 rfl 2 rfl ?_
  refine q_iload_n C hl dX4_exchange_12 rfl 3 rfl ?_
  refine q_runi C w fr_nil (q_S (As := [.int (jj p), .int (jj k)]) (rest := [.ref (ad 0)]) C w fr_nil fX4_at gX4_exchange_X4_at ⟨Nat.le_of_ble_eq_true rfl, Nat.le_of_ble_eq_true rfl⟩ (kX4_at l D cI cC cS p k  _) rfl rfl hl (Nat.le_of_ble_eq_true rfl) dX4_exchange_13 ⟨Nat.le_refl 0, Nat.le_refl 0⟩) (fun H locs w => ?_)
  refine q_aload_n C hl dX4_exchange_16 rfl 1 rfl ?_
  refine q_iload_n C hl dX4_exchange_17 rfl 2 rfl ?_
  refine q_iconst C dX4_exchange_18 ?_
  refine q_iadd C dX4_exchange_19 ?_
  refine q_iload_n C hl dX4_exchange_20 rfl 3 rfl ?_
  refine q_runi C w fr_all (q_V (As := [.int (jj (p + 1)), .int (jj k)]) (rest := [.int (jj (13 + 6 * p + k)), .ref (ad 0)]) C w fr_all fX4_of gX4_exchange_X4_of rfl ⟨Nat.le_of_ble_eq_true rfl, Nat.le_of_ble_eq_true rfl⟩ (kX4_of l D cI cC cS h ad σ α ς β τ q (p + 1) k (by omega) (by omega) _) (q0 := 0) rfl rfl rfl rfl hl (Nat.le_of_ble_eq_true rfl) dX4_exchange_21 ⟨Nat.le_refl 0, Nat.le_refl 0⟩) (fun H locs w => ?_)
  refine q_Mst C w ⟨by omega, by omega⟩ dX4_exchange_24 (fun H locs w => ?_)
  refine q_aload_n C hl dX4_exchange_25 rfl 1 rfl ?_
  refine q_getM C w.1 (fun w h => List.mem_cons_of_mem _ (List.mem_append_right _ h)) 0 (by decide) (List.mem_of_getElem? (i := 1) rfl) rfl dX4_exchange_26 ?_
  refine q_iload_n C hl dX4_exchange_29 rfl 2 rfl ?_
  refine q_iconst C dX4_exchange_30 ?_
  refine q_iadd C dX4_exchange_31 ?_
  refine q_iload_n C hl dX4_exchange_32 rfl 3 rfl ?_
  refine q_runi C w fr_nil (q_S (As := [.int (jj (p + 1)), .int (jj k)]) (rest := [.ref (ad 0)]) C w fr_nil fX4_at gX4_exchange_X4_at ⟨Nat.le_of_ble_eq_true rfl, Nat.le_of_ble_eq_true rfl⟩ (kX4_at l D cI cC cS (p + 1) k  _) rfl rfl hl (Nat.le_of_ble_eq_true rfl) dX4_exchange_33 ⟨Nat.le_refl 0, Nat.le_refl 0⟩) (fun H locs w => ?_)
  refine q_iload_n C hl dX4_exchange_36 rfl 0 rfl ?_
  refine q_Mst C w ⟨by omega, by omega⟩ dX4_exchange_37 (fun H locs w => ?_)
  exact q_vret C w dX4_exchange_38 rfl

def rX4_swaps : Room := { frames := 3, cells := 0, slots := 0, locals := 67 }
theorem fX4_swaps : Fc yX4_swaps wsX4_swaps rX4_swaps cX4_swaps 2 (some .int) 1 := ⟨⟨_, rfl⟩, rfl, rfl, by decide +kernel, by decide +kernel, by decide +kernel⟩
set_option maxHeartbeats 4000000 in
set_option maxRecDepth 10000 in
theorem kX4_swaps (l : Launch) (D : va_G) (cI cC cS : ClassId) (h : Nat) (ad : Nat → Nat) (σ α ς β τ q : Int → Int) (p : Int) (b1 : Bd p) (bW : Wi σ) (bE : We σ) : Ki l yX4_swaps wsX4_swaps rX4_swaps D (tz cI cC cS) [.ref h, .int (jj p)] (mW cI h ad σ α ς β τ q) (swu σ p) (mW cI h ad (swv σ p) α ς β τ q) := by
  have hn := bW.1
  have hn2 := bW.2.1
  have hy := why_b σ p
  refine q_entry (cc := cX4_swaps) (nL := 2) (ret := (some .int)) (by decide) ⟨_, rfl⟩ (Nat.le_of_ble_eq_true rfl) ?_
  intro A pr en s m args below meth c C hin w ls hl
  have w := w
  have hl : lv_has ls 2 [(0, .ref h), (1, .int (jj p))] := hl
  refine q_aload_n C hl dX4_swaps_0 rfl 0 rfl ?_
  refine q_iload_n C hl dX4_swaps_1 rfl 1 rfl ?_
  refine q_runi C w fr_all (q_V (As := [.int (jj p)]) (rest := []) C w fr_all fX4_arePair gX4_swaps_X4_arePair rfl ⟨Nat.le_of_ble_eq_true rfl, Nat.le_of_ble_eq_true rfl⟩ (kX4_arePair l D cI cC cS h ad σ α ς β τ q p b1 (by omega) _) (q0 := 0) rfl rfl rfl rfl hl (Nat.le_of_ble_eq_true rfl) dX4_swaps_2 ⟨Nat.le_refl 0, Nat.le_refl 0⟩) (fun H locs w => ?_)
  refine q_ifz_ne (tgt := 10) C dX4_swaps_5 (by decide) (fun c1 => ?_) (fun c1 => ?_)
  · have c1 := c1
    refine q_aload_n C hl dX4_swaps_10 rfl 0 rfl ?_
    refine q_iload_n C hl dX4_swaps_11 rfl 1 rfl ?_
    refine q_runi C w fr_all (q_V (As := [.int (jj p)]) (rest := []) C w fr_all fX4_why gX4_swaps_X4_why rfl ⟨Nat.le_of_ble_eq_true rfl, Nat.le_of_ble_eq_true rfl⟩ (kX4_why l D cI cC cS h ad σ α ς β τ q p (by omega) bW bE _) (q0 := 0) rfl rfl rfl rfl hl (Nat.le_of_ble_eq_true rfl) dX4_swaps_12 ⟨Nat.le_refl 0, Nat.le_refl 0⟩) (fun H locs w => ?_)
    refine q_if_le (tgt := 27) C dX4_swaps_15 (by decide) ⟨by omega, by omega⟩ (fun c2 => ?_) (fun c2 => ?_)
    · have c2 := c2
      refine q_aload_n C hl dX4_swaps_27 rfl 0 rfl ?_
      refine q_iload_n C hl dX4_swaps_28 rfl 1 rfl ?_
      refine q_iconst C dX4_swaps_29 ?_
      refine q_runv C w fr_all (q_V (As := [.int (jj p), .int (jj 4)]) (rest := []) C w fr_all fX4_exchange gX4_swaps_X4_exchange rfl ⟨Nat.le_of_ble_eq_true rfl, Nat.le_of_ble_eq_true rfl⟩ (kX4_exchange l D cI cC cS h ad σ α ς β τ q p 4 (by omega) (by omega) _) (q0 := 0) rfl rfl rfl rfl hl (Nat.le_of_ble_eq_true rfl) dX4_swaps_30 ⟨Nat.le_refl 0, Nat.le_refl 0⟩) (fun H locs w => ?_)
      refine q_aload_n C hl dX4_swaps_33 rfl 0 rfl ?_
      refine q_getM C w.1 (fun w h => List.mem_cons_of_mem _ (List.mem_append_right _ h)) 0 (by decide) (List.mem_of_getElem? (i := 1) rfl) rfl dX4_swaps_34 ?_
      refine q_iload_n C hl dX4_swaps_37 rfl 1 rfl ?_
      refine q_iconst C dX4_swaps_38 ?_
      refine q_runi C w fr_nil (q_S (As := [.int (jj p), .int (jj 5)]) (rest := [.ref (ad 0)]) C w fr_nil fX4_at gX4_swaps_X4_at ⟨Nat.le_of_ble_eq_true rfl, Nat.le_of_ble_eq_true rfl⟩ (kX4_at l D cI cC cS p 5  _) rfl rfl hl (Nat.le_of_ble_eq_true rfl) dX4_swaps_39 ⟨Nat.le_refl 0, Nat.le_refl 0⟩) (fun H locs w => ?_)
      refine q_dup2 C dX4_swaps_42 rfl rfl ?_
      refine q_Mld C w.1 ⟨by omega, by omega⟩ dX4_swaps_43 ?_
      refine q_iconst C dX4_swaps_44 ?_
      refine q_iadd C dX4_swaps_45 ?_
      refine q_Mst C w ⟨by omega, by omega⟩ dX4_swaps_46 (fun H locs w => ?_)
      refine q_aload_n C hl dX4_swaps_47 rfl 0 rfl ?_
      refine q_getM C w.1 (fun w h => List.mem_cons_of_mem _ (List.mem_append_right _ h)) 0 (by decide) (List.mem_of_getElem? (i := 1) rfl) rfl dX4_swaps_48 ?_
      refine q_iload_n C hl dX4_swaps_51 rfl 1 rfl ?_
      refine q_iconst C dX4_swaps_52 ?_
      refine q_iadd C dX4_swaps_53 ?_
      refine q_iconst C dX4_swaps_54 ?_
      refine q_runi C w fr_nil (q_S (As := [.int (jj (p + 1)), .int (jj 5)]) (rest := [.ref (ad 0)]) C w fr_nil fX4_at gX4_swaps_X4_at ⟨Nat.le_of_ble_eq_true rfl, Nat.le_of_ble_eq_true rfl⟩ (kX4_at l D cI cC cS (p + 1) 5  _) rfl rfl hl (Nat.le_of_ble_eq_true rfl) dX4_swaps_55 ⟨Nat.le_refl 0, Nat.le_refl 0⟩) (fun H locs w => ?_)
      refine q_dup2 C dX4_swaps_58 rfl rfl ?_
      refine q_Mld C w.1 ⟨by omega, by omega⟩ dX4_swaps_59 ?_
      refine q_iconst C dX4_swaps_60 ?_
      refine q_iadd C dX4_swaps_61 ?_
      refine q_Mst C w ⟨by omega, by omega⟩ dX4_swaps_62 (fun H locs w => ?_)
      refine q_aload_n C hl dX4_swaps_63 rfl 0 rfl ?_
      refine q_getM C w.1 (fun w h => List.mem_cons_of_mem _ (List.mem_append_right _ h)) 0 (by decide) (List.mem_of_getElem? (i := 1) rfl) rfl dX4_swaps_64 ?_
      refine q_bipush C dX4_swaps_67 (by decide) ?_
      refine q_dup2 C dX4_swaps_69 rfl rfl ?_
      refine q_Mld C w.1 ⟨by omega, by omega⟩ dX4_swaps_70 ?_
      refine q_iconst C dX4_swaps_71 ?_
      refine q_iadd C dX4_swaps_72 ?_
      refine q_Mst C w ⟨by omega, by omega⟩ dX4_swaps_73 (fun H locs w => ?_)
      refine q_aload_n C hl dX4_swaps_74 rfl 0 rfl ?_
      refine q_iload_n C hl dX4_swaps_75 rfl 1 rfl ?_
      refine q_iconst C dX4_swaps_76 ?_
      refine q_runi C w fr_all (q_V (As := [.int (jj p), .int (jj 4)]) (rest := []) C w fr_all fX4_of gX4_swaps_X4_of rfl ⟨Nat.le_of_ble_eq_true rfl, Nat.le_of_ble_eq_true rfl⟩ (kX4_of l D cI cC cS h ad (up (up (up (xch σ p 4) (13 + 6 * p + 5) (((xch σ p 4) (13 + 6 * p + 5)) + 1)) (13 + 6 * (p + 1) + 5) (((up (xch σ p 4) (13 + 6 * p + 5) (((xch σ p 4) (13 + 6 * p + 5)) + 1)) (13 + 6 * (p + 1) + 5)) + 1)) 7 (((up (up (xch σ p 4) (13 + 6 * p + 5) (((xch σ p 4) (13 + 6 * p + 5)) + 1)) (13 + 6 * (p + 1) + 5) (((up (xch σ p 4) (13 + 6 * p + 5) (((xch σ p 4) (13 + 6 * p + 5)) + 1)) (13 + 6 * (p + 1) + 5)) + 1)) 7) + 1)) α ς β τ q p 4 (by omega) (by omega) _) (q0 := 0) rfl rfl rfl rfl hl (Nat.le_of_ble_eq_true rfl) dX4_swaps_77 ⟨Nat.le_refl 0, Nat.le_refl 0⟩) (fun H locs w => ?_)
      exact q_iret C w dX4_swaps_80 (by unfold swu; rw [if_pos (by omega), if_neg (by omega)] <;> rfl) (by unfold swv; rw [if_pos (by omega)] <;> rfl)
    · have c2 := c2
      refine q_bipush C dX4_swaps_18 (by decide) ?_
      refine q_aload_n C hl dX4_swaps_20 rfl 0 rfl ?_
      refine q_iload_n C hl dX4_swaps_21 rfl 1 rfl ?_
      refine q_runi C w fr_all (q_V (As := [.int (jj p)]) (rest := [.int (jj (-10))]) C w fr_all fX4_why gX4_swaps_X4_why rfl ⟨Nat.le_of_ble_eq_true rfl, Nat.le_of_ble_eq_true rfl⟩ (kX4_why l D cI cC cS h ad σ α ς β τ q p (by omega) bW bE _) (q0 := 0) rfl rfl rfl rfl hl (Nat.le_of_ble_eq_true rfl) dX4_swaps_22 ⟨Nat.le_refl 0, Nat.le_refl 0⟩) (fun H locs w => ?_)
      refine q_isub C dX4_swaps_25 ?_
      exact q_iret C w dX4_swaps_26 (by unfold swu; rw [if_pos (by omega), if_pos (by omega)]) (by unfold swv; rw [if_neg (by omega)])
  · have c1 := c1
    refine q_iconst C dX4_swaps_8 ?_
    exact q_iret C w dX4_swaps_9 (by unfold swu; rw [if_neg (by omega)]) (by unfold swv; rw [if_neg (by omega)])

def rX4_looks : Room := { frames := 0, cells := 0, slots := 0, locals := 0 }
theorem fX4_looks : Fc yX4_looks wsX4_looks rX4_looks cX4_looks 2 none 0 := ⟨⟨_, rfl⟩, rfl, rfl, by decide +kernel, by decide +kernel, by decide +kernel⟩
set_option maxHeartbeats 4000000 in
set_option maxRecDepth 10000 in
theorem kX4_looks (l : Launch) (D : va_G) (cI cC cS : ClassId) (h : Nat) (ad : Nat → Nat) (σ α ς β τ q : Int → Int)   : Kv l yX4_looks wsX4_looks rX4_looks D (tz cI cC cS) [.ref h] (mW cI h ad σ α ς β τ q) (mW cI h ad σ σ ς β τ q) := by
  refine q_entry (cc := cX4_looks) (nL := 2) (ret := none) (by decide) ⟨_, rfl⟩ (Nat.le_of_ble_eq_true rfl) ?_
  intro A pr en s m args below meth c C hin w ls hl
  have w := w
  have hl : lv_has ls 2 [(0, .ref h)] := hl
  refine q_iconst C dX4_looks_0 ?_
  refine q_istore_n (lv' := [(1, .int (jj 0)), (0, .ref h)]) C hl dX4_looks_1 rfl (by decide) rfl (fun ls hl => ?_)
  have loop2 : ∀ (n2 : Nat) (i : Int), (0 ≤ i) → (i ≤ 109) → (109 - i).toNat < n2 → ∀ (H : Heap) (locs : List Loc), Wd D A s (mW cI h ad σ (lk σ α i) ς β τ q) H locs → ∀ ls : Array Slot, lv_has ls 2 [(0, .ref h), (1, .int (jj i))] → W pr l en rX4_looks s m args below meth c H locs 0 0 (MQ below (Qv D (tz cI cC cS) (mW cI h ad σ σ ς β τ q) A) args s 0 0 A) (F0 m 2 ls []) := by
    intro n2
    induction n2 with
    | zero => intro i hi0 hi1 hm; exact absurd hm (Nat.not_lt_zero _)
    | succ n2 ih2 =>
      intro i hi0 hi1 hm2 H locs w ls hl
      refine q_iload_n C hl dX4_looks_2 rfl 1 rfl ?_
      refine q_bipush C dX4_looks_3 (by decide) ?_
      refine q_icmp_ge (tgt := 26) C dX4_looks_5 (by decide) ⟨by omega, by omega⟩ ⟨by omega, by omega⟩ (fun c1 => ?_) (fun c1 => ?_)
      · have c1 := c1
        have w : Wd D A s (mW cI h ad σ σ ς β τ q) H locs := wd_mcong (fun k _ _ => rfl) (fun k h0 h1 => by unfold lk; rw [if_pos (by omega)]) (fun k _ _ => rfl) w
        exact q_vret C w dX4_looks_26 rfl
      · have c1 := c1
        refine q_aload_n C hl dX4_looks_8 rfl 0 rfl ?_
        refine q_getM C w.1 (fun w h => List.mem_cons_of_mem _ (List.mem_append_right _ h)) 1 (by decide) (List.mem_of_getElem? (i := 1) rfl) rfl dX4_looks_9 ?_
        refine q_iload_n C hl dX4_looks_12 rfl 1 rfl ?_
        refine q_aload_n C hl dX4_looks_13 rfl 0 rfl ?_
        refine q_getM C w.1 (fun w h => List.mem_cons_of_mem _ (List.mem_append_right _ h)) 0 (by decide) (List.mem_of_getElem? (i := 2) rfl) rfl dX4_looks_14 ?_
        refine q_iload_n C hl dX4_looks_17 rfl 1 rfl ?_
        refine q_Mld C w.1 ⟨by omega, by omega⟩ dX4_looks_18 ?_
        refine q_iast (ws' := mW cI h ad σ (up (lk σ α i) i (σ i)) ς β τ q) (n := 109) (f := lk σ α i) C w 2 0 rfl rfl ⟨by omega, by omega, by omega⟩ dX4_looks_19 rfl (fun H locs w => ?_)
        refine q_iinc (lv' := [(1, .int (jj (i + 1))), (0, .ref h)]) C hl dX4_looks_20 1 rfl (by decide) rfl (fun ls hl => ?_)
        refine q_goto (tgt := 2) C dX4_looks_23 (by decide) ?_
        exact ih2 (i + 1) (by omega) (by omega) (by omega) _ _ (by rw [lk_s σ α hi0] at w; exact w) ls (lv_sub hl [1, 0] rfl)
  exact loop2 _ 0 (by omega) (by omega) (Nat.lt_succ_self _) _ _ (by rw [lk_0]; exact w) ls (lv_sub hl [1, 0] rfl)

def rX4_records : Room := { frames := 0, cells := 0, slots := 0, locals := 0 }
theorem fX4_records : Fc yX4_records wsX4_records rX4_records cX4_records 2 none 0 := ⟨⟨_, rfl⟩, rfl, rfl, by decide +kernel, by decide +kernel, by decide +kernel⟩
set_option maxHeartbeats 4000000 in
set_option maxRecDepth 10000 in
theorem kX4_records (l : Launch) (D : va_G) (cI cC cS : ClassId) (h : Nat) (ad : Nat → Nat) (σ α ς β τ q : Int → Int)  (bk : 0 ≤ q 5 ∧ q 5 ≤ 4) : Kv l yX4_records wsX4_records rX4_records D (tz cI cC cS) [.ref h] (mW cI h ad σ α ς β τ q) (mW cI h ad σ α ς (rcB β α (q 5)) τ (rcQ q)) := by
  refine q_entry (cc := cX4_records) (nL := 2) (ret := none) (by decide) ⟨_, rfl⟩ (Nat.le_of_ble_eq_true rfl) ?_
  intro A pr en s m args below meth c C hin w ls hl
  have w := w
  have hl : lv_has ls 2 [(0, .ref h)] := hl
  refine q_aload_n C hl dX4_records_0 rfl 0 rfl ?_
  refine q_getM C w.1 (fun w h => List.mem_cons_of_mem _ (List.mem_append_right _ h)) 5 (by decide) (List.mem_of_getElem? (i := 1) rfl) rfl dX4_records_1 ?_
  refine q_iconst C dX4_records_4 ?_
  refine q_icmp_ne (tgt := 48) C dX4_records_5 (by decide) ⟨by omega, by omega⟩ ⟨by omega, by omega⟩ (fun c1 => ?_) (fun c1 => ?_)
  · have c1 := c1
    refine q_iconst C dX4_records_48 ?_
    refine q_istore_n (lv' := [(1, .int (jj 0)), (0, .ref h)]) C hl dX4_records_49 rfl (by decide) rfl (fun ls hl => ?_)
    have loop50 : ∀ (n50 : Nat) (i : Int), (0 ≤ i) → (i ≤ 109) → (109 - i).toNat < n50 → ∀ (H : Heap) (locs : List Loc), Wd D A s (mW cI h ad σ α ς (ldd β α (q 5) i) τ q) H locs → ∀ ls : Array Slot, lv_has ls 2 [(0, .ref h), (1, .int (jj i))] → W pr l en rX4_records s m args below meth c H locs 0 0 (MQ below (Qv D (tz cI cC cS) (mW cI h ad σ α ς (rcB β α (q 5)) τ (rcQ q)) A) args s 0 0 A) (F0 m 50 ls []) := by
      intro n50
      induction n50 with
      | zero => intro i hi0 hi1 hm; exact absurd hm (Nat.not_lt_zero _)
      | succ n50 ih50 =>
        intro i hi0 hi1 hm50 H locs w ls hl
        have e5 : up q 5 3 5 = 3 := up_s q 5 3
        refine q_iload_n C hl dX4_records_50 rfl 1 rfl ?_
        refine q_bipush C dX4_records_51 (by decide) ?_
        refine q_icmp_ge (tgt := 82) C dX4_records_53 (by decide) ⟨by omega, by omega⟩ ⟨by omega, by omega⟩ (fun c2 => ?_) (fun c2 => ?_)
        · have c2 := c2
          refine q_aload_n C hl dX4_records_82 rfl 0 rfl ?_
          refine q_dup C dX4_records_83 rfl ?_
          refine q_getM C w.1 (fun w h => List.mem_cons_of_mem _ (List.mem_append_right _ h)) 5 (by decide) (List.mem_of_getElem? (i := 1) rfl) rfl dX4_records_84 ?_
          refine q_iconst C dX4_records_87 ?_
          refine q_iadd C dX4_records_88 ?_
          refine q_putM C w (fun w h => List.mem_cons_of_mem _ (List.mem_append_right _ h)) 5 (by decide) (List.mem_of_getElem? (i := 1) rfl) rfl rfl rfl rfl dX4_records_89 (mP5 cI h ad _ _ _ _ _ _ _) (fun H locs w => ?_)
          exact q_vret C w dX4_records_92 (by unfold rcB rcQ; rw [if_neg (by omega), if_neg (by omega), show i = 109 by omega])
        · have c2 := c2
          refine q_aload_n C hl dX4_records_56 rfl 0 rfl ?_
          refine q_getM C w.1 (fun w h => List.mem_cons_of_mem _ (List.mem_append_right _ h)) 4 (by decide) (List.mem_of_getElem? (i := 2) rfl) rfl dX4_records_57 ?_
          refine q_bipush C dX4_records_60 (by decide) ?_
          refine q_aload_n C hl dX4_records_62 rfl 0 rfl ?_
          refine q_getM C w.1 (fun w h => List.mem_cons_of_mem _ (List.mem_append_right _ h)) 5 (by decide) (List.mem_of_getElem? (i := 1) rfl) rfl dX4_records_63 ?_
          refine q_imul C dX4_records_66 ?_
          refine q_iload_n C hl dX4_records_67 rfl 1 rfl ?_
          refine q_iadd C dX4_records_68 ?_
          refine q_aload_n C hl dX4_records_69 rfl 0 rfl ?_
          refine q_getM C w.1 (fun w h => List.mem_cons_of_mem _ (List.mem_append_right _ h)) 1 (by decide) (List.mem_of_getElem? (i := 3) rfl) rfl dX4_records_70 ?_
          refine q_iload_n C hl dX4_records_73 rfl 1 rfl ?_
          refine q_iald (n := 109) (f := α) C w.1 2 0 rfl rfl ⟨by omega, by omega, by omega⟩ dX4_records_74 ?_
          refine q_iast (ws' := mW cI h ad σ α ς (up (ldd β α (q 5) i) ((109 * (q 5)) + i) (α i)) τ q) (n := 436) (f := ldd β α (q 5) i) C w 4 0 rfl rfl ⟨by omega, by omega, by omega⟩ dX4_records_75 rfl (fun H locs w => ?_)
          refine q_iinc (lv' := [(1, .int (jj (i + 1))), (0, .ref h)]) C hl dX4_records_76 1 rfl (by decide) rfl (fun ls hl => ?_)
          refine q_goto (tgt := 50) C dX4_records_79 (by decide) ?_
          exact ih50 (i + 1) (by omega) (by omega) (by omega) _ _ (by rw [ldd_s _ α _ hi0] at w; exact w) ls (lv_sub hl [1, 0] rfl)
    exact loop50 _ 0 (by omega) (by omega) (Nat.lt_succ_self _) _ _ (by rw [ldd_0]; exact w) ls (lv_sub hl [1, 0] rfl)
  · have c1 := c1
    refine q_iconst C dX4_records_8 ?_
    refine q_istore_n (lv' := [(1, .int (jj 0)), (0, .ref h)]) C hl dX4_records_9 rfl (by decide) rfl (fun ls hl => ?_)
    have loop10 : ∀ (n10 : Nat) (x : Int), (0 ≤ x) → (x ≤ 327) → (327 - x).toNat < n10 → ∀ (H : Heap) (locs : List Loc), Wd D A s (mW cI h ad σ α ς (sh β x) τ q) H locs → ∀ ls : Array Slot, lv_has ls 2 [(0, .ref h), (1, .int (jj x))] → W pr l en rX4_records s m args below meth c H locs 0 0 (MQ below (Qv D (tz cI cC cS) (mW cI h ad σ α ς (rcB β α (q 5)) τ (rcQ q)) A) args s 0 0 A) (F0 m 10 ls []) := by
      intro n10
      induction n10 with
      | zero => intro x hx0 hx1 hm; exact absurd hm (Nat.not_lt_zero _)
      | succ n10 ih10 =>
        intro x hx0 hx1 hm10 H locs w ls hl
        refine q_iload_n C hl dX4_records_10 rfl 1 rfl ?_
        refine q_sipush C dX4_records_11 (by decide) ?_
        refine q_icmp_ge (tgt := 38) C dX4_records_14 (by decide) ⟨by omega, by omega⟩ ⟨by omega, by omega⟩ (fun c3 => ?_) (fun c3 => ?_)
        · have c3 := c3
          refine q_aload_n C hl dX4_records_38 rfl 0 rfl ?_
          refine q_dup C dX4_records_39 rfl ?_
          refine q_getM C w.1 (fun w h => List.mem_cons_of_mem _ (List.mem_append_right _ h)) 5 (by decide) (List.mem_of_getElem? (i := 1) rfl) rfl dX4_records_40 ?_
          refine q_iconst C dX4_records_43 ?_
          refine q_isub C dX4_records_44 ?_
          refine q_putM C w (fun w h => List.mem_cons_of_mem _ (List.mem_append_right _ h)) 5 (by decide) (List.mem_of_getElem? (i := 1) rfl) rfl rfl rfl rfl dX4_records_45 (mP5 cI h ad _ _ _ _ _ _ _) (fun H locs w => ?_)
          have w : Wd D A s (mW cI h ad σ α ς (sh β 327) τ (up q 5 3)) H locs := by rw [show q 5 - 1 = 3 by omega, show x = 327 by omega] at w; exact w
          refine q_iconst C dX4_records_48 ?_
          refine q_istore_n (lv' := [(1, .int (jj 0)), (0, .ref h)]) C hl dX4_records_49 rfl (by decide) rfl (fun ls hl => ?_)
          have loop50 : ∀ (n50 : Nat) (i : Int), (0 ≤ i) → (i ≤ 109) → (109 - i).toNat < n50 → ∀ (H : Heap) (locs : List Loc), Wd D A s (mW cI h ad σ α ς (ldd (sh β 327) α ((up q 5 3) 5) i) τ (up q 5 3)) H locs → ∀ ls : Array Slot, lv_has ls 2 [(0, .ref h), (1, .int (jj i))] → W pr l en rX4_records s m args below meth c H locs 0 0 (MQ below (Qv D (tz cI cC cS) (mW cI h ad σ α ς (rcB β α (q 5)) τ (rcQ q)) A) args s 0 0 A) (F0 m 50 ls []) := by
            intro n50
            induction n50 with
            | zero => intro i hi0 hi1 hm; exact absurd hm (Nat.not_lt_zero _)
            | succ n50 ih50 =>
              intro i hi0 hi1 hm50 H locs w ls hl
              have e5 : up q 5 3 5 = 3 := up_s q 5 3
              refine q_iload_n C hl dX4_records_50 rfl 1 rfl ?_
              refine q_bipush C dX4_records_51 (by decide) ?_
              refine q_icmp_ge (tgt := 82) C dX4_records_53 (by decide) ⟨by omega, by omega⟩ ⟨by omega, by omega⟩ (fun c4 => ?_) (fun c4 => ?_)
              · have c4 := c4
                refine q_aload_n C hl dX4_records_82 rfl 0 rfl ?_
                refine q_dup C dX4_records_83 rfl ?_
                refine q_getM C w.1 (fun w h => List.mem_cons_of_mem _ (List.mem_append_right _ h)) 5 (by decide) (List.mem_of_getElem? (i := 1) rfl) rfl dX4_records_84 ?_
                refine q_iconst C dX4_records_87 ?_
                refine q_iadd C dX4_records_88 ?_
                refine q_putM C w (fun w h => List.mem_cons_of_mem _ (List.mem_append_right _ h)) 5 (by decide) (List.mem_of_getElem? (i := 1) rfl) rfl rfl rfl rfl dX4_records_89 (mP5 cI h ad _ _ _ _ _ _ _) (fun H locs w => ?_)
                exact q_vret C w dX4_records_92 (by unfold rcB rcQ; rw [if_pos (by omega), if_pos (by omega), show i = 109 by omega, up_up, e5]; rfl)
              · have c4 := c4
                refine q_aload_n C hl dX4_records_56 rfl 0 rfl ?_
                refine q_getM C w.1 (fun w h => List.mem_cons_of_mem _ (List.mem_append_right _ h)) 4 (by decide) (List.mem_of_getElem? (i := 2) rfl) rfl dX4_records_57 ?_
                refine q_bipush C dX4_records_60 (by decide) ?_
                refine q_aload_n C hl dX4_records_62 rfl 0 rfl ?_
                refine q_getM C w.1 (fun w h => List.mem_cons_of_mem _ (List.mem_append_right _ h)) 5 (by decide) (List.mem_of_getElem? (i := 1) rfl) rfl dX4_records_63 ?_
                refine q_imul C dX4_records_66 ?_
                refine q_iload_n C hl dX4_records_67 rfl 1 rfl ?_
                refine q_iadd C dX4_records_68 ?_
                refine q_aload_n C hl dX4_records_69 rfl 0 rfl ?_
                refine q_getM C w.1 (fun w h => List.mem_cons_of_mem _ (List.mem_append_right _ h)) 1 (by decide) (List.mem_of_getElem? (i := 3) rfl) rfl dX4_records_70 ?_
                refine q_iload_n C hl dX4_records_73 rfl 1 rfl ?_
                refine q_iald (n := 109) (f := α) C w.1 2 0 rfl rfl ⟨by omega, by omega, by omega⟩ dX4_records_74 ?_
                refine q_iast (ws' := mW cI h ad σ α ς (up (ldd (sh β 327) α ((up q 5 3) 5) i) ((109 * ((up q 5 3) 5)) + i) (α i)) τ (up q 5 3)) (n := 436) (f := ldd (sh β 327) α ((up q 5 3) 5) i) C w 4 0 rfl rfl ⟨by omega, by omega, by omega⟩ dX4_records_75 rfl (fun H locs w => ?_)
                refine q_iinc (lv' := [(1, .int (jj (i + 1))), (0, .ref h)]) C hl dX4_records_76 1 rfl (by decide) rfl (fun ls hl => ?_)
                refine q_goto (tgt := 50) C dX4_records_79 (by decide) ?_
                exact ih50 (i + 1) (by omega) (by omega) (by omega) _ _ (by rw [ldd_s _ α _ hi0] at w; exact w) ls (lv_sub hl [1, 0] rfl)
          exact loop50 _ 0 (by omega) (by omega) (Nat.lt_succ_self _) _ _ (by rw [ldd_0]; exact w) ls (lv_sub hl [1, 0] rfl)
        · have c3 := c3
          refine q_aload_n C hl dX4_records_17 rfl 0 rfl ?_
          refine q_getM C w.1 (fun w h => List.mem_cons_of_mem _ (List.mem_append_right _ h)) 4 (by decide) (List.mem_of_getElem? (i := 2) rfl) rfl dX4_records_18 ?_
          refine q_iload_n C hl dX4_records_21 rfl 1 rfl ?_
          refine q_aload_n C hl dX4_records_22 rfl 0 rfl ?_
          refine q_getM C w.1 (fun w h => List.mem_cons_of_mem _ (List.mem_append_right _ h)) 4 (by decide) (List.mem_of_getElem? (i := 2) rfl) rfl dX4_records_23 ?_
          refine q_bipush C dX4_records_26 (by decide) ?_
          refine q_iload_n C hl dX4_records_28 rfl 1 rfl ?_
          refine q_iadd C dX4_records_29 ?_
          refine q_iald (n := 436) (f := sh β x) C w.1 4 0 rfl rfl ⟨by omega, by omega, by omega⟩ dX4_records_30 ?_
          refine q_iast (ws' := mW cI h ad σ α ς (up (sh β x) x ((sh β x) (109 + x))) τ q) (n := 436) (f := sh β x) C w 4 0 rfl rfl ⟨by omega, by omega, by omega⟩ dX4_records_31 rfl (fun H locs w => ?_)
          refine q_iinc (lv' := [(1, .int (jj (x + 1))), (0, .ref h)]) C hl dX4_records_32 1 rfl (by decide) rfl (fun ls hl => ?_)
          refine q_goto (tgt := 10) C dX4_records_35 (by decide) ?_
          exact ih10 (x + 1) (by omega) (by omega) (by omega) _ _ (by rw [sh_s β hx0] at w; exact w) ls (lv_sub hl [1, 0] rfl)
    exact loop10 _ 0 (by omega) (by omega) (Nat.lt_succ_self _) _ _ (by rw [sh_0]; exact w) ls (lv_sub hl [1, 0] rfl)

def rX4_know : Room := { frames := 1, cells := 0, slots := 0, locals := 21 }
theorem fX4_know : Fc yX4_know wsX4_know rX4_know cX4_know 1 none 0 := ⟨⟨_, rfl⟩, rfl, rfl, by decide +kernel, by decide +kernel, by decide +kernel⟩
set_option maxHeartbeats 4000000 in
set_option maxRecDepth 10000 in
theorem kX4_know (l : Launch) (D : va_G) (cI cC cS : ClassId) (h : Nat) (ad : Nat → Nat) (σ α ς β τ q : Int → Int)  (bk : 0 ≤ q 5 ∧ q 5 ≤ 4) : Kv l yX4_know wsX4_know rX4_know D (tz cI cC cS) [.ref h] (mW cI h ad σ α ς β τ q) (mW cI h ad σ σ ς (rcB β σ (q 5)) τ (rcQ q)) := by
  refine q_entry (cc := cX4_know) (nL := 1) (ret := none) (by decide) ⟨_, rfl⟩ (Nat.le_of_ble_eq_true rfl) ?_
  intro A pr en s m args below meth c C hin w ls hl
  have w := w
  have hl : lv_has ls 1 [(0, .ref h)] := hl
  refine q_aload_n C hl dX4_know_0 rfl 0 rfl ?_
  refine q_runv C w fr_all (q_V (As := []) (rest := []) C w fr_all fX4_looks gX4_know_X4_looks rfl ⟨Nat.le_of_ble_eq_true rfl, Nat.le_of_ble_eq_true rfl⟩ (kX4_looks l D cI cC cS h ad σ α ς β τ q   _) (q0 := 0) rfl rfl rfl rfl hl (Nat.le_of_ble_eq_true rfl) dX4_know_1 ⟨Nat.le_refl 0, Nat.le_refl 0⟩) (fun H locs w => ?_)
  refine q_aload_n C hl dX4_know_4 rfl 0 rfl ?_
  refine q_runv C w fr_all (q_V (As := []) (rest := []) C w fr_all fX4_records gX4_know_X4_records rfl ⟨Nat.le_of_ble_eq_true rfl, Nat.le_of_ble_eq_true rfl⟩ (kX4_records l D cI cC cS h ad σ σ ς β τ q  (by omega) _) (q0 := 0) rfl rfl rfl rfl hl (Nat.le_of_ble_eq_true rfl) dX4_know_5 ⟨Nat.le_refl 0, Nat.le_refl 0⟩) (fun H locs w => ?_)
  exact q_vret C w dX4_know_8 rfl

def rX4_acted : Room := { frames := 1, cells := 0, slots := 0, locals := 21 }
theorem fX4_acted : Fc yX4_acted wsX4_acted rX4_acted cX4_acted 2 (some .int) 1 := ⟨⟨_, rfl⟩, rfl, rfl, by decide +kernel, by decide +kernel, by decide +kernel⟩
set_option maxHeartbeats 4000000 in
set_option maxRecDepth 10000 in
theorem kX4_acted (l : Launch) (D : va_G) (cI cC cS : ClassId) (h : Nat) (ad : Nat → Nat) (σ α ς β τ q : Int → Int) (v : Int) (b1 : Bd v) (bk : 0 ≤ q 5 ∧ q 5 ≤ 4) : Ki l yX4_acted wsX4_acted rX4_acted D (tz cI cC cS) [.ref h, .int (jj v)] (mW cI h ad σ α ς β τ q) v (mW cI h ad σ α ς (if 0 ≤ v then rcB β α (q 5) else β) τ (if 0 ≤ v then rcQ q else q)) := by
  refine q_entry (cc := cX4_acted) (nL := 2) (ret := (some .int)) (by decide) ⟨_, rfl⟩ (Nat.le_of_ble_eq_true rfl) ?_
  intro A pr en s m args below meth c C hin w ls hl
  have w := w
  have hl : lv_has ls 2 [(0, .ref h), (1, .int (jj v))] := hl
  refine q_iload_n C hl dX4_acted_0 rfl 1 rfl ?_
  refine q_if_lt (tgt := 8) C dX4_acted_1 (by decide) b1 (fun c1 => ?_) (fun c1 => ?_)
  · have c1 := c1
    refine q_iload_n C hl dX4_acted_8 rfl 1 rfl ?_
    exact q_iret C w dX4_acted_9 rfl (by first | rw [if_pos (by omega), if_pos (by omega)] | rw [if_neg (by omega), if_neg (by omega)])
  · have c1 := c1
    refine q_aload_n C hl dX4_acted_4 rfl 0 rfl ?_
    refine q_runv C w fr_all (q_V (As := []) (rest := []) C w fr_all fX4_records gX4_acted_X4_records rfl ⟨Nat.le_of_ble_eq_true rfl, Nat.le_of_ble_eq_true rfl⟩ (kX4_records l D cI cC cS h ad σ α ς β τ q  (by omega) _) (q0 := 0) rfl rfl rfl rfl hl (Nat.le_of_ble_eq_true rfl) dX4_acted_5 ⟨Nat.le_refl 0, Nat.le_refl 0⟩) (fun H locs w => ?_)
    refine q_iload_n C hl dX4_acted_8 rfl 1 rfl ?_
    exact q_iret C w dX4_acted_9 rfl (by first | rw [if_pos (by omega), if_pos (by omega)] | rw [if_neg (by omega), if_neg (by omega)])
