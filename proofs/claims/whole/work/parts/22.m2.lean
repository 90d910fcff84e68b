def rX4_reaching : Room := { frames := 3, cells := 0, slots := 0, locals := 65 }
theorem fX4_reaching : Fc yX4_reaching wsX4_reaching rX4_reaching cX4_reaching 4 (some .int) 1 := ⟨⟨_, rfl⟩, rfl, rfl, by decide +kernel, by decide +kernel, by decide +kernel⟩
set_option maxHeartbeats 4000000 in
set_option maxRecDepth 10000 in
theorem kX4_reaching (l : Launch) (D : va_G) (cI cC cS : ClassId) (h : Nat) (ad : Nat → Nat) (σ α ς β τ q : Int → Int) (p : Int) (bW : Wi σ) (b2 : -1 ≤ p ∧ p ≤ 16) : Ki l yX4_reaching wsX4_reaching rX4_reaching D (tz cI cC cS) [.ref h, .int (jj p)] (mW cI h ad σ α ς β τ q) (rch σ p (σ 0)) (mW cI h ad σ α ς β τ q) := by
  have hn := bW.1
  have hn2 := bW.2.1
  refine q_entry (cc := cX4_reaching) (nL := 4) (ret := (some .int)) (by decide) ⟨_, rfl⟩ (Nat.le_of_ble_eq_true rfl) ?_
  intro A pr en s m args below meth c C hin w ls hl
  have w := w
  have hl : lv_has ls 4 [(0, .ref h), (1, .int (jj p))] := hl
  refine q_iconst C dX4_reaching_0 ?_
  refine q_istore_n (lv' := [(2, .int (jj 0)), (0, .ref h), (1, .int (jj p))]) C hl dX4_reaching_1 rfl (by decide) rfl (fun ls hl => ?_)
  refine q_iconst C dX4_reaching_2 ?_
  refine q_istore_n (lv' := [(3, .int (jj 0)), (2, .int (jj 0)), (0, .ref h), (1, .int (jj p))]) C hl dX4_reaching_3 rfl (by decide) rfl (fun ls hl => ?_)
  have loop4 : ∀ (n4 : Nat) (i : Int) (a : Int), (0 ≤ i) → (i ≤ σ 0) → (a = rch σ p i ∧ 0 ≤ a ∧ a ≤ i) → (σ 0 - i).toNat < n4 → ∀ (H : Heap) (locs : List Loc), Wd D A s (mW cI h ad σ α ς β τ q) H locs → ∀ ls : Array Slot, lv_has ls 4 [(0, .ref h), (1, .int (jj p)), (2, .int (jj a)), (3, .int (jj i))] → W pr l en rX4_reaching s m args below meth c H locs 0 0 (MQ below (Qi D (tz cI cC cS) (rch σ p (σ 0)) (mW cI h ad σ α ς β τ q) A) args s 0 0 A) (F0 m 4 ls []) := by
    intro n4
    induction n4 with
    | zero => intro i a hi0 hi1 ha hm; exact absurd hm (Nat.not_lt_zero _)
    | succ n4 ih4 =>
      intro i a hi0 hi1 ha hm4 H locs w ls hl
      refine q_iload_n C hl dX4_reaching_4 rfl 3 rfl ?_
      refine q_aload_n C hl dX4_reaching_5 rfl 0 rfl ?_
      refine q_getM C w.1 (fun w h => List.mem_cons_of_mem _ (List.mem_append_right _ h)) 0 (by decide) (List.mem_of_getElem? (i := 1) rfl) rfl dX4_reaching_6 ?_
      refine q_iconst C dX4_reaching_9 ?_
      refine q_Mld C w.1 ⟨by omega, by omega⟩ dX4_reaching_10 ?_
      refine q_icmp_ge (tgt := 54) C dX4_reaching_11 (by decide) ⟨by omega, by omega⟩ ⟨by omega, by omega⟩ (fun c1 => ?_) (fun c1 => ?_)
      · have c1 := c1
        refine q_iload_n C hl dX4_reaching_54 rfl 2 rfl ?_
        exact q_iret C w dX4_reaching_55 (by rw [ha.1, show i = σ 0 by omega]) rfl
      · have c1 := c1
        have hq := bW.2.2 i hi0 (by omega)
        refine q_iload_n C hl dX4_reaching_14 rfl 2 rfl ?_
        refine q_aload_n C hl dX4_reaching_15 rfl 0 rfl ?_
        refine q_iload_n C hl dX4_reaching_16 rfl 3 rfl ?_
        refine q_iconst C dX4_reaching_17 ?_
        refine q_runi C w fr_all (q_V (As := [.int (jj i), .int (jj 4)]) (rest := [.int (jj a)]) C w fr_all fX4_of gX4_reaching_X4_of rfl ⟨Nat.le_of_ble_eq_true rfl, Nat.le_of_ble_eq_true rfl⟩ (kX4_of l D cI cC cS h ad σ α ς β τ q i 4 (by omega) (by omega) _) (q0 := 0) rfl rfl rfl rfl hl (Nat.le_of_ble_eq_true rfl) dX4_reaching_18 ⟨Nat.le_refl 0, Nat.le_refl 0⟩) (fun H locs w => ?_)
        refine q_if_le (tgt := 45) C dX4_reaching_21 (by decide) ⟨by omega, by omega⟩ (fun c2 => ?_) (fun c2 => ?_)
        · have c2 := c2
          refine q_iconst C dX4_reaching_45 ?_
          refine q_iadd C dX4_reaching_46 ?_
          refine q_istore_n (lv' := [(2, .int (jj (a + 0))), (0, .ref h), (1, .int (jj p)), (3, .int (jj i))]) C hl dX4_reaching_47 rfl (by decide) rfl (fun ls hl => ?_)
          refine q_iinc (lv' := [(3, .int (jj (i + 1))), (2, .int (jj (a + 0))), (0, .ref h), (1, .int (jj p))]) C hl dX4_reaching_48 3 rfl (by decide) rfl (fun ls hl => ?_)
          refine q_goto (tgt := 4) C dX4_reaching_51 (by decide) ?_
          exact ih4 (i + 1) (a + 0) (by omega) (by omega) ⟨by rw [rch_s σ p hi0, ← ha.1]; unfold bI; split <;> omega, by omega, by omega⟩ (by omega) _ _ w ls (lv_sub hl [2, 3, 1, 0] rfl)
        · have c2 := c2
          refine q_iload_n C hl dX4_reaching_24 rfl 1 rfl ?_
          refine q_aload_n C hl dX4_reaching_25 rfl 0 rfl ?_
          refine q_iload_n C hl dX4_reaching_26 rfl 3 rfl ?_
          have hl1 : 0 ≤ lst σ i ∧ lst σ i ≤ 16 := by unfold lst; omega
          have hg1 : -1 ≤ grt σ i ∧ grt σ i ≤ 18 := by unfold grt; omega
          refine q_runi C w fr_all (q_V (As := [.int (jj i)]) (rest := [.int (jj p), .int (jj a)]) C w fr_all fX4_leastOf gX4_reaching_X4_leastOf rfl ⟨Nat.le_of_ble_eq_true rfl, Nat.le_of_ble_eq_true rfl⟩ (kX4_leastOf l D cI cC cS h ad σ α ς β τ q i (by omega) (by omega) _) (q0 := 0) rfl rfl rfl rfl hl (Nat.le_of_ble_eq_true rfl) dX4_reaching_27 ⟨Nat.le_refl 0, Nat.le_refl 0⟩) (fun H locs w => ?_)
          refine q_aload_n C hl dX4_reaching_30 rfl 0 rfl ?_
          refine q_iload_n C hl dX4_reaching_31 rfl 3 rfl ?_
          refine q_runi C w fr_all (q_V (As := [.int (jj i)]) (rest := [.int (jj (lst σ i)), .int (jj p), .int (jj a)]) C w fr_all fX4_greatestOf gX4_reaching_X4_greatestOf rfl ⟨Nat.le_of_ble_eq_true rfl, Nat.le_of_ble_eq_true rfl⟩ (kX4_greatestOf l D cI cC cS h ad σ α ς β τ q i (by omega) (by omega) (by omega) _) (q0 := 0) rfl rfl rfl rfl hl (Nat.le_of_ble_eq_true rfl) dX4_reaching_32 ⟨Nat.le_refl 0, Nat.le_refl 0⟩) (fun H locs w => ?_)
          refine q_runi C w fr_nil (q_S (As := [.int (jj p), .int (jj (lst σ i)), .int (jj (grt σ i))]) (rest := [.int (jj a)]) C w fr_nil fX4_in gX4_reaching_X4_in ⟨Nat.le_of_ble_eq_true rfl, Nat.le_of_ble_eq_true rfl⟩ (kX4_in l D cI cC cS p (lst σ i) (grt σ i) ⟨by omega, by omega⟩ ⟨by omega, by omega⟩ ⟨by omega, by omega⟩ _) rfl rfl hl (Nat.le_of_ble_eq_true rfl) dX4_reaching_35 ⟨Nat.le_refl 0, Nat.le_refl 0⟩) (fun H locs w => ?_)
          refine q_ifz_eq (tgt := 45) C dX4_reaching_38 (by decide) (fun c3 => ?_) (fun c3 => ?_)
          · have c3 := c3
            refine q_iconst C dX4_reaching_45 ?_
            refine q_iadd C dX4_reaching_46 ?_
            refine q_istore_n (lv' := [(2, .int (jj (a + 0))), (0, .ref h), (1, .int (jj p)), (3, .int (jj i))]) C hl dX4_reaching_47 rfl (by decide) rfl (fun ls hl => ?_)
            refine q_iinc (lv' := [(3, .int (jj (i + 1))), (2, .int (jj (a + 0))), (0, .ref h), (1, .int (jj p))]) C hl dX4_reaching_48 3 rfl (by decide) rfl (fun ls hl => ?_)
            refine q_goto (tgt := 4) C dX4_reaching_51 (by decide) ?_
            exact ih4 (i + 1) (a + 0) (by omega) (by omega) ⟨by rw [rch_s σ p hi0, ← ha.1]; unfold bI; split <;> omega, by omega, by omega⟩ (by omega) _ _ w ls (lv_sub hl [2, 3, 1, 0] rfl)
          · have c3 := c3
            refine q_iconst C dX4_reaching_41 ?_
            refine q_goto (tgt := 46) C dX4_reaching_42 (by decide) ?_
            refine q_iadd C dX4_reaching_46 ?_
            refine q_istore_n (lv' := [(2, .int (jj (a + 1))), (0, .ref h), (1, .int (jj p)), (3, .int (jj i))]) C hl dX4_reaching_47 rfl (by decide) rfl (fun ls hl => ?_)
            refine q_iinc (lv' := [(3, .int (jj (i + 1))), (2, .int (jj (a + 1))), (0, .ref h), (1, .int (jj p))]) C hl dX4_reaching_48 3 rfl (by decide) rfl (fun ls hl => ?_)
            refine q_goto (tgt := 4) C dX4_reaching_51 (by decide) ?_
            exact ih4 (i + 1) (a + 1) (by omega) (by omega) ⟨by rw [rch_s σ p hi0, ← ha.1]; unfold bI; split <;> omega, by omega, by omega⟩ (by omega) _ _ w ls (lv_sub hl [2, 3, 1, 0] rfl)
  exact loop4 _ 0 0 (by omega) (by omega) ⟨rfl, by omega, by omega⟩ (Nat.lt_succ_self _) _ _ w ls (lv_sub hl [2, 3, 1, 0] rfl)

def rX4_running : Room := { frames := 3, cells := 0, slots := 0, locals := 65 }
theorem fX4_running : Fc yX4_running wsX4_running rX4_running cX4_running 4 (some .int) 1 := ⟨⟨_, rfl⟩, rfl, rfl, by decide +kernel, by decide +kernel, by decide +kernel⟩
set_option maxHeartbeats 4000000 in
set_option maxRecDepth 10000 in
theorem kX4_running (l : Launch) (D : va_G) (cI cC cS : ClassId) (h : Nat) (ad : Nat → Nat) (σ α ς β τ q : Int → Int) (p : Int) (bW : Wi σ) (b2 : 0 ≤ p ∧ p ≤ 15) : Ki l yX4_running wsX4_running rX4_running D (tz cI cC cS) [.ref h, .int (jj p)] (mW cI h ad σ α ς β τ q) (rnf σ p (σ 0)) (mW cI h ad σ α ς β τ q) := by
  have hn := bW.1
  have hn2 := bW.2.1
  refine q_entry (cc := cX4_running) (nL := 4) (ret := (some .int)) (by decide) ⟨_, rfl⟩ (Nat.le_of_ble_eq_true rfl) ?_
  intro A pr en s m args below meth c C hin w ls hl
  have w := w
  have hl : lv_has ls 4 [(0, .ref h), (1, .int (jj p))] := hl
  refine q_iconst C dX4_running_0 ?_
  refine q_istore_n (lv' := [(2, .int (jj 0)), (0, .ref h), (1, .int (jj p))]) C hl dX4_running_1 rfl (by decide) rfl (fun ls hl => ?_)
  refine q_iconst C dX4_running_2 ?_
  refine q_istore_n (lv' := [(3, .int (jj 0)), (2, .int (jj 0)), (0, .ref h), (1, .int (jj p))]) C hl dX4_running_3 rfl (by decide) rfl (fun ls hl => ?_)
  have loop4 : ∀ (n4 : Nat) (i : Int) (a : Int), (0 ≤ i) → (i ≤ σ 0) → (a = rnf σ p i ∧ 0 ≤ a ∧ a ≤ i) → (σ 0 - i).toNat < n4 → ∀ (H : Heap) (locs : List Loc), Wd D A s (mW cI h ad σ α ς β τ q) H locs → ∀ ls : Array Slot, lv_has ls 4 [(0, .ref h), (1, .int (jj p)), (2, .int (jj a)), (3, .int (jj i))] → W pr l en rX4_running s m args below meth c H locs 0 0 (MQ below (Qi D (tz cI cC cS) (rnf σ p (σ 0)) (mW cI h ad σ α ς β τ q) A) args s 0 0 A) (F0 m 4 ls []) := by
    intro n4
    induction n4 with
    | zero => intro i a hi0 hi1 ha hm; exact absurd hm (Nat.not_lt_zero _)
    | succ n4 ih4 =>
      intro i a hi0 hi1 ha hm4 H locs w ls hl
      refine q_iload_n C hl dX4_running_4 rfl 3 rfl ?_
      refine q_aload_n C hl dX4_running_5 rfl 0 rfl ?_
      refine q_getM C w.1 (fun w h => List.mem_cons_of_mem _ (List.mem_append_right _ h)) 0 (by decide) (List.mem_of_getElem? (i := 1) rfl) rfl dX4_running_6 ?_
      refine q_iconst C dX4_running_9 ?_
      refine q_Mld C w.1 ⟨by omega, by omega⟩ dX4_running_10 ?_
      refine q_icmp_ge (tgt := 59) C dX4_running_11 (by decide) ⟨by omega, by omega⟩ ⟨by omega, by omega⟩ (fun c1 => ?_) (fun c1 => ?_)
      · have c1 := c1
        refine q_iload_n C hl dX4_running_59 rfl 2 rfl ?_
        exact q_iret C w dX4_running_60 (by rw [ha.1, show i = σ 0 by omega]) rfl
      · have c1 := c1
        have hq := bW.2.2 i hi0 (by omega)
        refine q_iload_n C hl dX4_running_14 rfl 2 rfl ?_
        refine q_aload_n C hl dX4_running_15 rfl 0 rfl ?_
        refine q_iload_n C hl dX4_running_16 rfl 3 rfl ?_
        refine q_iconst C dX4_running_17 ?_
        refine q_runi C w fr_all (q_V (As := [.int (jj i), .int (jj 4)]) (rest := [.int (jj a)]) C w fr_all fX4_of gX4_running_X4_of rfl ⟨Nat.le_of_ble_eq_true rfl, Nat.le_of_ble_eq_true rfl⟩ (kX4_of l D cI cC cS h ad σ α ς β τ q i 4 (by omega) (by omega) _) (q0 := 0) rfl rfl rfl rfl hl (Nat.le_of_ble_eq_true rfl) dX4_running_18 ⟨Nat.le_refl 0, Nat.le_refl 0⟩) (fun H locs w => ?_)
        refine q_if_le (tgt := 50) C dX4_running_21 (by decide) ⟨by omega, by omega⟩ (fun c2 => ?_) (fun c2 => ?_)
        · have c2 := c2
          refine q_iconst C dX4_running_50 ?_
          refine q_iadd C dX4_running_51 ?_
          refine q_istore_n (lv' := [(2, .int (jj (a + 0))), (0, .ref h), (1, .int (jj p)), (3, .int (jj i))]) C hl dX4_running_52 rfl (by decide) rfl (fun ls hl => ?_)
          refine q_iinc (lv' := [(3, .int (jj (i + 1))), (2, .int (jj (a + 0))), (0, .ref h), (1, .int (jj p))]) C hl dX4_running_53 3 rfl (by decide) rfl (fun ls hl => ?_)
          refine q_goto (tgt := 4) C dX4_running_56 (by decide) ?_
          exact ih4 (i + 1) (a + 0) (by omega) (by omega) ⟨by rw [rnf_s σ p hi0, ← ha.1]; unfold bI; split <;> omega, by omega, by omega⟩ (by omega) _ _ w ls (lv_sub hl [2, 3, 1, 0] rfl)
        · have c2 := c2
          refine q_iload_n C hl dX4_running_24 rfl 1 rfl ?_
          refine q_aload_n C hl dX4_running_25 rfl 0 rfl ?_
          refine q_iload_n C hl dX4_running_26 rfl 3 rfl ?_
          have hl1 : 0 ≤ lst σ i ∧ lst σ i ≤ 16 := by unfold lst; omega
          have hg1 : -1 ≤ grt σ i ∧ grt σ i ≤ 18 := by unfold grt; omega
          refine q_runi C w fr_all (q_V (As := [.int (jj i)]) (rest := [.int (jj p), .int (jj a)]) C w fr_all fX4_leastOf gX4_running_X4_leastOf rfl ⟨Nat.le_of_ble_eq_true rfl, Nat.le_of_ble_eq_true rfl⟩ (kX4_leastOf l D cI cC cS h ad σ α ς β τ q i (by omega) (by omega) _) (q0 := 0) rfl rfl rfl rfl hl (Nat.le_of_ble_eq_true rfl) dX4_running_27 ⟨Nat.le_refl 0, Nat.le_refl 0⟩) (fun H locs w => ?_)
          refine q_iconst C dX4_running_30 ?_
          refine q_isub C dX4_running_31 ?_
          refine q_icmp_eq (tgt := 46) C dX4_running_32 (by decide) ⟨by omega, by omega⟩ ⟨by omega, by omega⟩ (fun c3 => ?_) (fun c3 => ?_)
          · have c3 := c3
            refine q_iconst C dX4_running_46 ?_
            refine q_goto (tgt := 51) C dX4_running_47 (by decide) ?_
            refine q_iadd C dX4_running_51 ?_
            refine q_istore_n (lv' := [(2, .int (jj (a + 1))), (0, .ref h), (1, .int (jj p)), (3, .int (jj i))]) C hl dX4_running_52 rfl (by decide) rfl (fun ls hl => ?_)
            refine q_iinc (lv' := [(3, .int (jj (i + 1))), (2, .int (jj (a + 1))), (0, .ref h), (1, .int (jj p))]) C hl dX4_running_53 3 rfl (by decide) rfl (fun ls hl => ?_)
            refine q_goto (tgt := 4) C dX4_running_56 (by decide) ?_
            exact ih4 (i + 1) (a + 1) (by omega) (by omega) ⟨by rw [rnf_s σ p hi0, ← ha.1]; unfold bI; split <;> omega, by omega, by omega⟩ (by omega) _ _ w ls (lv_sub hl [2, 3, 1, 0] rfl)
          · have c3 := c3
            refine q_iload_n C hl dX4_running_35 rfl 1 rfl ?_
            refine q_aload_n C hl dX4_running_36 rfl 0 rfl ?_
            refine q_iload_n C hl dX4_running_37 rfl 3 rfl ?_
            refine q_runi C w fr_all (q_V (As := [.int (jj i)]) (rest := [.int (jj p), .int (jj a)]) C w fr_all fX4_greatestOf gX4_running_X4_greatestOf rfl ⟨Nat.le_of_ble_eq_true rfl, Nat.le_of_ble_eq_true rfl⟩ (kX4_greatestOf l D cI cC cS h ad σ α ς β τ q i (by omega) (by omega) (by omega) _) (q0 := 0) rfl rfl rfl rfl hl (Nat.le_of_ble_eq_true rfl) dX4_running_38 ⟨Nat.le_refl 0, Nat.le_refl 0⟩) (fun H locs w => ?_)
            refine q_iconst C dX4_running_41 ?_
            refine q_iadd C dX4_running_42 ?_
            refine q_icmp_ne (tgt := 50) C dX4_running_43 (by decide) ⟨by omega, by omega⟩ ⟨by omega, by omega⟩ (fun c4 => ?_) (fun c4 => ?_)
            · have c4 := c4
              refine q_iconst C dX4_running_50 ?_
              refine q_iadd C dX4_running_51 ?_
              refine q_istore_n (lv' := [(2, .int (jj (a + 0))), (0, .ref h), (1, .int (jj p)), (3, .int (jj i))]) C hl dX4_running_52 rfl (by decide) rfl (fun ls hl => ?_)
              refine q_iinc (lv' := [(3, .int (jj (i + 1))), (2, .int (jj (a + 0))), (0, .ref h), (1, .int (jj p))]) C hl dX4_running_53 3 rfl (by decide) rfl (fun ls hl => ?_)
              refine q_goto (tgt := 4) C dX4_running_56 (by decide) ?_
              exact ih4 (i + 1) (a + 0) (by omega) (by omega) ⟨by rw [rnf_s σ p hi0, ← ha.1]; unfold bI; split <;> omega, by omega, by omega⟩ (by omega) _ _ w ls (lv_sub hl [2, 3, 1, 0] rfl)
            · have c4 := c4
              refine q_iconst C dX4_running_46 ?_
              refine q_goto (tgt := 51) C dX4_running_47 (by decide) ?_
              refine q_iadd C dX4_running_51 ?_
              refine q_istore_n (lv' := [(2, .int (jj (a + 1))), (0, .ref h), (1, .int (jj p)), (3, .int (jj i))]) C hl dX4_running_52 rfl (by decide) rfl (fun ls hl => ?_)
              refine q_iinc (lv' := [(3, .int (jj (i + 1))), (2, .int (jj (a + 1))), (0, .ref h), (1, .int (jj p))]) C hl dX4_running_53 3 rfl (by decide) rfl (fun ls hl => ?_)
              refine q_goto (tgt := 4) C dX4_running_56 (by decide) ?_
              exact ih4 (i + 1) (a + 1) (by omega) (by omega) ⟨by rw [rnf_s σ p hi0, ← ha.1]; unfold bI; split <;> omega, by omega, by omega⟩ (by omega) _ _ w ls (lv_sub hl [2, 3, 1, 0] rfl)
  exact loop4 _ 0 0 (by omega) (by omega) ⟨rfl, by omega, by omega⟩ (Nat.lt_succ_self _) _ _ w ls (lv_sub hl [2, 3, 1, 0] rfl)

def rX4_isCovered : Room := { frames := 4, cells := 0, slots := 0, locals := 88 }
theorem fX4_isCovered : Fc yX4_isCovered wsX4_isCovered rX4_isCovered cX4_isCovered 3 (some .boolean) 2 := ⟨⟨_, rfl⟩, rfl, rfl, by decide +kernel, by decide +kernel, by decide +kernel⟩
set_option maxHeartbeats 4000000 in
set_option maxRecDepth 10000 in
theorem kX4_isCovered (l : Launch) (D : va_G) (cI cC cS : ClassId) (h : Nat) (ad : Nat → Nat) (σ α ς β τ q : Int → Int) (p side : Int) (bW : Wi σ) (bp : 0 ≤ p ∧ p ≤ 15) (bs : 0 ≤ side ∧ side ≤ 2) : Ki l yX4_isCovered wsX4_isCovered rX4_isCovered D (tz cI cC cS) [.ref h, .int (jj p), .int (jj side)] (mW cI h ad σ α ς β τ q) (bI (cov σ p side)) (mW cI h ad σ α ς β τ q) := by
  have r1 := rch_b σ p bW.1
  have r2 := rch_b σ (p - 1) bW.1
  have r3 := rch_b σ (p + 1) bW.1
  have hn2 := bW.2.1
  refine q_entry (cc := cX4_isCovered) (nL := 3) (ret := (some .boolean)) (by decide) ⟨_, rfl⟩ (Nat.le_of_ble_eq_true rfl) ?_
  intro A pr en s m args below meth c C hin w ls hl
  have w := w
  have hl : lv_has ls 3 [(0, .ref h), (1, .int (jj p)), (2, .int (jj side))] := hl
  refine q_aload_n C hl dX4_isCovered_0 rfl 0 rfl ?_
  refine q_iload_n C hl dX4_isCovered_1 rfl 1 rfl ?_
  refine q_runi C w fr_all (q_V (As := [.int (jj p)]) (rest := []) C w fr_all fX4_reaching gX4_isCovered_X4_reaching rfl ⟨Nat.le_of_ble_eq_true rfl, Nat.le_of_ble_eq_true rfl⟩ (kX4_reaching l D cI cC cS h ad σ α ς β τ q p bW (by omega) _) (q0 := 0) rfl rfl rfl rfl hl (Nat.le_of_ble_eq_true rfl) dX4_isCovered_2 ⟨Nat.le_refl 0, Nat.le_refl 0⟩) (fun H locs w => ?_)
  refine q_if_gt (tgt := 38) C dX4_isCovered_5 (by decide) ⟨by omega, by omega⟩ (fun c1 => ?_) (fun c1 => ?_)
  · have c1 := c1
    refine q_iconst C dX4_isCovered_38 ?_
    refine q_goto (tgt := 43) C dX4_isCovered_39 (by decide) ?_
    exact q_zret C w dX4_isCovered_43 (by first | exact (bI_t (by omega)).symm | exact (bI_f (by omega)).symm) rfl
  · have c1 := c1
    refine q_iload_n C hl dX4_isCovered_8 rfl 2 rfl ?_
    refine q_iconst C dX4_isCovered_9 ?_
    refine q_icmp_ne (tgt := 23) C dX4_isCovered_10 (by decide) ⟨by omega, by omega⟩ ⟨by omega, by omega⟩ (fun c2 => ?_) (fun c2 => ?_)
    · have c2 := c2
      refine q_iload_n C hl dX4_isCovered_23 rfl 2 rfl ?_
      refine q_iconst C dX4_isCovered_24 ?_
      refine q_icmp_ne (tgt := 42) C dX4_isCovered_25 (by decide) ⟨by omega, by omega⟩ ⟨by omega, by omega⟩ (fun c3 => ?_) (fun c3 => ?_)
      · have c3 := c3
        refine q_iconst C dX4_isCovered_42 ?_
        exact q_zret C w dX4_isCovered_43 (by first | exact (bI_t (by omega)).symm | exact (bI_f (by omega)).symm) rfl
      · have c3 := c3
        refine q_aload_n C hl dX4_isCovered_28 rfl 0 rfl ?_
        refine q_iload_n C hl dX4_isCovered_29 rfl 1 rfl ?_
        refine q_iconst C dX4_isCovered_30 ?_
        refine q_iadd C dX4_isCovered_31 ?_
        refine q_runi C w fr_all (q_V (As := [.int (jj (p + 1))]) (rest := []) C w fr_all fX4_reaching gX4_isCovered_X4_reaching rfl ⟨Nat.le_of_ble_eq_true rfl, Nat.le_of_ble_eq_true rfl⟩ (kX4_reaching l D cI cC cS h ad σ α ς β τ q (p + 1) bW (by omega) _) (q0 := 0) rfl rfl rfl rfl hl (Nat.le_of_ble_eq_true rfl) dX4_isCovered_32 ⟨Nat.le_refl 0, Nat.le_refl 0⟩) (fun H locs w => ?_)
        refine q_if_le (tgt := 42) C dX4_isCovered_35 (by decide) ⟨by omega, by omega⟩ (fun c4 => ?_) (fun c4 => ?_)
        · have c4 := c4
          refine q_iconst C dX4_isCovered_42 ?_
          exact q_zret C w dX4_isCovered_43 (by first | exact (bI_t (by omega)).symm | exact (bI_f (by omega)).symm) rfl
        · have c4 := c4
          refine q_iconst C dX4_isCovered_38 ?_
          refine q_goto (tgt := 43) C dX4_isCovered_39 (by decide) ?_
          exact q_zret C w dX4_isCovered_43 (by first | exact (bI_t (by omega)).symm | exact (bI_f (by omega)).symm) rfl
    · have c2 := c2
      refine q_aload_n C hl dX4_isCovered_13 rfl 0 rfl ?_
      refine q_iload_n C hl dX4_isCovered_14 rfl 1 rfl ?_
      refine q_iconst C dX4_isCovered_15 ?_
      refine q_isub C dX4_isCovered_16 ?_
      refine q_runi C w fr_all (q_V (As := [.int (jj (p - 1))]) (rest := []) C w fr_all fX4_reaching gX4_isCovered_X4_reaching rfl ⟨Nat.le_of_ble_eq_true rfl, Nat.le_of_ble_eq_true rfl⟩ (kX4_reaching l D cI cC cS h ad σ α ς β τ q (p - 1) bW (by omega) _) (q0 := 0) rfl rfl rfl rfl hl (Nat.le_of_ble_eq_true rfl) dX4_isCovered_17 ⟨Nat.le_refl 0, Nat.le_refl 0⟩) (fun H locs w => ?_)
      refine q_if_gt (tgt := 38) C dX4_isCovered_20 (by decide) ⟨by omega, by omega⟩ (fun c5 => ?_) (fun c5 => ?_)
      · have c5 := c5
        refine q_iconst C dX4_isCovered_38 ?_
        refine q_goto (tgt := 43) C dX4_isCovered_39 (by decide) ?_
        exact q_zret C w dX4_isCovered_43 (by first | exact (bI_t (by omega)).symm | exact (bI_f (by omega)).symm) rfl
      · have c5 := c5
        refine q_iload_n C hl dX4_isCovered_23 rfl 2 rfl ?_
        refine q_iconst C dX4_isCovered_24 ?_
        refine q_icmp_ne (tgt := 42) C dX4_isCovered_25 (by decide) ⟨by omega, by omega⟩ ⟨by omega, by omega⟩ (fun c6 => ?_) (fun c6 => ?_)
        · have c6 := c6
          refine q_iconst C dX4_isCovered_42 ?_
          exact q_zret C w dX4_isCovered_43 (by first | exact (bI_t (by omega)).symm | exact (bI_f (by omega)).symm) rfl
        · have c6 := c6
          refine q_aload_n C hl dX4_isCovered_28 rfl 0 rfl ?_
          refine q_iload_n C hl dX4_isCovered_29 rfl 1 rfl ?_
          refine q_iconst C dX4_isCovered_30 ?_
          refine q_iadd C dX4_isCovered_31 ?_
          refine q_runi C w fr_all (q_V (As := [.int (jj (p + 1))]) (rest := []) C w fr_all fX4_reaching gX4_isCovered_X4_reaching rfl ⟨Nat.le_of_ble_eq_true rfl, Nat.le_of_ble_eq_true rfl⟩ (kX4_reaching l D cI cC cS h ad σ α ς β τ q (p + 1) bW (by omega) _) (q0 := 0) rfl rfl rfl rfl hl (Nat.le_of_ble_eq_true rfl) dX4_isCovered_32 ⟨Nat.le_refl 0, Nat.le_refl 0⟩) (fun H locs w => ?_)
          refine q_if_le (tgt := 42) C dX4_isCovered_35 (by decide) ⟨by omega, by omega⟩ (fun c7 => ?_) (fun c7 => ?_)
          · have c7 := c7
            refine q_iconst C dX4_isCovered_42 ?_
            exact q_zret C w dX4_isCovered_43 (by first | exact (bI_t (by omega)).symm | exact (bI_f (by omega)).symm) rfl
          · have c7 := c7
            refine q_iconst C dX4_isCovered_38 ?_
            refine q_goto (tgt := 43) C dX4_isCovered_39 (by decide) ?_
            exact q_zret C w dX4_isCovered_43 (by first | exact (bI_t (by omega)).symm | exact (bI_f (by omega)).symm) rfl

def rX4_wetter : Room := { frames := 5, cells := 0, slots := 0, locals := 110 }
theorem fX4_wetter : Fc yX4_wetter wsX4_wetter rX4_wetter cX4_wetter 4 (some .int) 3 := ⟨⟨_, rfl⟩, rfl, rfl, by decide +kernel, by decide +kernel, by decide +kernel⟩
set_option maxHeartbeats 4000000 in
set_option maxRecDepth 10000 in
theorem kX4_wetter (l : Launch) (D : va_G) (cI cC cS : ClassId) (h : Nat) (ad : Nat → Nat) (σ α ς β τ q : Int → Int) (p d side : Int) (bW : Wi σ) (bp : 0 ≤ p ∧ p ≤ 15) (bd : 1 ≤ d ∧ d ≤ 99) (bs : 0 ≤ side ∧ side ≤ 2) : Ki l yX4_wetter wsX4_wetter rX4_wetter D (tz cI cC cS) [.ref h, .int (jj p), .int (jj d), .int (jj side)] (mW cI h ad σ α ς β τ q) (wtr σ p d side) (mW cI h ad σ α ς β τ q) := by
  refine q_entry (cc := cX4_wetter) (nL := 4) (ret := (some .int)) (by decide) ⟨_, rfl⟩ (Nat.le_of_ble_eq_true rfl) ?_
  intro A pr en s m args below meth c C hin w ls hl
  have w := w
  have hl : lv_has ls 4 [(0, .ref h), (1, .int (jj p)), (2, .int (jj d)), (3, .int (jj side))] := hl
  refine q_aload_n C hl dX4_wetter_0 rfl 0 rfl ?_
  refine q_iload_n C hl dX4_wetter_1 rfl 1 rfl ?_
  refine q_iload_n C hl dX4_wetter_2 rfl 3 rfl ?_
  refine q_runi C w fr_all (q_V (As := [.int (jj p), .int (jj side)]) (rest := []) C w fr_all fX4_isCovered gX4_wetter_X4_isCovered rfl ⟨Nat.le_of_ble_eq_true rfl, Nat.le_of_ble_eq_true rfl⟩ (kX4_isCovered l D cI cC cS h ad σ α ς β τ q p side bW (by omega) (by omega) _) (q0 := 0) rfl rfl rfl rfl hl (Nat.le_of_ble_eq_true rfl) dX4_wetter_3 ⟨Nat.le_refl 0, Nat.le_refl 0⟩) (fun H locs w => ?_)
  refine q_ifz_eq (tgt := 13) C dX4_wetter_6 (by decide) (fun c1 => ?_) (fun c1 => ?_)
  · have c1 := c1
    refine q_iload_n C hl dX4_wetter_13 rfl 2 rfl ?_
    refine q_aload_n C hl dX4_wetter_14 rfl 0 rfl ?_
    refine q_iload_n C hl dX4_wetter_15 rfl 1 rfl ?_
    refine q_runi C w fr_all (q_V (As := [.int (jj p)]) (rest := [.int (jj d)]) C w fr_all fX4_running gX4_wetter_X4_running rfl ⟨Nat.le_of_ble_eq_true rfl, Nat.le_of_ble_eq_true rfl⟩ (kX4_running l D cI cC cS h ad σ α ς β τ q p bW (by omega) _) (q0 := 0) rfl rfl rfl rfl hl (Nat.le_of_ble_eq_true rfl) dX4_wetter_16 ⟨Nat.le_refl 0, Nat.le_refl 0⟩) (fun H locs w => ?_)
    refine q_iload_n C hl dX4_wetter_19 rfl 2 rfl ?_
    refine q_iconst C dX4_wetter_20 ?_
    refine q_idiv C dX4_wetter_21 ⟨by omega, by omega⟩ ⟨by omega, by omega⟩ ?_
    refine q_imul C dX4_wetter_22 ?_
    refine q_iadd C dX4_wetter_23 ?_
    exact q_iret C w dX4_wetter_24 (by unfold wtr; split <;> omega) rfl
  · have c1 := c1
    refine q_iconst C dX4_wetter_9 ?_
    refine q_goto (tgt := 14) C dX4_wetter_10 (by decide) ?_
    refine q_aload_n C hl dX4_wetter_14 rfl 0 rfl ?_
    refine q_iload_n C hl dX4_wetter_15 rfl 1 rfl ?_
    refine q_runi C w fr_all (q_V (As := [.int (jj p)]) (rest := [.int (jj 0)]) C w fr_all fX4_running gX4_wetter_X4_running rfl ⟨Nat.le_of_ble_eq_true rfl, Nat.le_of_ble_eq_true rfl⟩ (kX4_running l D cI cC cS h ad σ α ς β τ q p bW (by omega) _) (q0 := 0) rfl rfl rfl rfl hl (Nat.le_of_ble_eq_true rfl) dX4_wetter_16 ⟨Nat.le_refl 0, Nat.le_refl 0⟩) (fun H locs w => ?_)
    refine q_iload_n C hl dX4_wetter_19 rfl 2 rfl ?_
    refine q_iconst C dX4_wetter_20 ?_
    refine q_idiv C dX4_wetter_21 ⟨by omega, by omega⟩ ⟨by omega, by omega⟩ ?_
    refine q_imul C dX4_wetter_22 ?_
    refine q_iadd C dX4_wetter_23 ?_
    exact q_iret C w dX4_wetter_24 (by unfold wtr; split <;> omega) rfl

def rX4_wetBy : Room := { frames := 6, cells := 0, slots := 0, locals := 133 }
theorem fX4_wetBy : Fc yX4_wetBy wsX4_wetBy rX4_wetBy cX4_wetBy 5 (some .int) 3 := ⟨⟨_, rfl⟩, rfl, rfl, by decide +kernel, by decide +kernel, by decide +kernel⟩
set_option maxHeartbeats 4000000 in
set_option maxRecDepth 10000 in
theorem kX4_wetBy (l : Launch) (D : va_G) (cI cC cS : ClassId) (h : Nat) (ad : Nat → Nat) (σ α ς β τ q : Int → Int) (p d side : Int) (bW : Wi σ) (bp : 0 ≤ p ∧ p ≤ 15) (bd : 1 ≤ d ∧ d ≤ 99) (bs : 0 ≤ side ∧ side ≤ 2) (bw : 0 ≤ σ (13 + 6 * p + 1) ∧ σ (13 + 6 * p + 1) ≤ 999) : Ki l yX4_wetBy wsX4_wetBy rX4_wetBy D (tz cI cC cS) [.ref h, .int (jj p), .int (jj d), .int (jj side)] (mW cI h ad σ α ς β τ q) (wby σ p d side) (mW cI h ad σ α ς β τ q) := by
  have hb := wtr_b bW p side bd.1 bd.2
  refine q_entry (cc := cX4_wetBy) (nL := 5) (ret := (some .int)) (by decide) ⟨_, rfl⟩ (Nat.le_of_ble_eq_true rfl) ?_
  intro A pr en s m args below meth c C hin w ls hl
  have w := w
  have hl : lv_has ls 5 [(0, .ref h), (1, .int (jj p)), (2, .int (jj d)), (3, .int (jj side))] := hl
  refine q_aload_n C hl dX4_wetBy_0 rfl 0 rfl ?_
  refine q_iload_n C hl dX4_wetBy_1 rfl 1 rfl ?_
  refine q_iconst C dX4_wetBy_2 ?_
  refine q_runi C w fr_all (q_V (As := [.int (jj p), .int (jj 1)]) (rest := []) C w fr_all fX4_of gX4_wetBy_X4_of rfl ⟨Nat.le_of_ble_eq_true rfl, Nat.le_of_ble_eq_true rfl⟩ (kX4_of l D cI cC cS h ad σ α ς β τ q p 1 (by omega) (by omega) _) (q0 := 0) rfl rfl rfl rfl hl (Nat.le_of_ble_eq_true rfl) dX4_wetBy_3 ⟨Nat.le_refl 0, Nat.le_refl 0⟩) (fun H locs w => ?_)
  refine q_aload_n C hl dX4_wetBy_6 rfl 0 rfl ?_
  refine q_iload_n C hl dX4_wetBy_7 rfl 1 rfl ?_
  refine q_iload_n C hl dX4_wetBy_8 rfl 2 rfl ?_
  refine q_iload_n C hl dX4_wetBy_9 rfl 3 rfl ?_
  refine q_runi C w fr_all (q_V (As := [.int (jj p), .int (jj d), .int (jj side)]) (rest := [.int (jj (σ (13 + 6 * p + 1)))]) C w fr_all fX4_wetter gX4_wetBy_X4_wetter rfl ⟨Nat.le_of_ble_eq_true rfl, Nat.le_of_ble_eq_true rfl⟩ (kX4_wetter l D cI cC cS h ad σ α ς β τ q p d side bW (by omega) (by omega) (by omega) _) (q0 := 0) rfl rfl rfl rfl hl (Nat.le_of_ble_eq_true rfl) dX4_wetBy_10 ⟨Nat.le_refl 0, Nat.le_refl 0⟩) (fun H locs w => ?_)
  refine q_iadd C dX4_wetBy_13 ?_
  refine q_istore (lv' := [(4, .int (jj ((σ (13 + 6 * p + 1)) + (wtr σ p d side)))), (0, .ref h), (1, .int (jj p)), (2, .int (jj d)), (3, .int (jj side))]) C hl dX4_wetBy_14 (by decide) rfl (fun ls hl => ?_)
  refine q_iload C hl dX4_wetBy_16 0 rfl ?_
  refine q_sipush C dX4_wetBy_18 (by decide) ?_
  refine q_icmp_ge (tgt := 29) C dX4_wetBy_21 (by decide) ⟨by omega, by omega⟩ ⟨by omega, by omega⟩ (fun c1 => ?_) (fun c1 => ?_)
  · have c1 := c1
    refine q_sipush C dX4_wetBy_29 (by decide) ?_
    exact q_iret C w dX4_wetBy_32 (by unfold wby; omega) rfl
  · have c1 := c1
    refine q_iload C hl dX4_wetBy_24 0 rfl ?_
    refine q_goto (tgt := 32) C dX4_wetBy_26 (by decide) ?_
    exact q_iret C w dX4_wetBy_32 (by unfold wby; omega) rfl

def rX4_goes : Room := { frames := 1, cells := 0, slots := 0, locals := 21 }
theorem fX4_goes : Fc yX4_goes wsX4_goes rX4_goes cX4_goes 3 none 1 := ⟨⟨_, rfl⟩, rfl, rfl, by decide +kernel, by decide +kernel, by decide +kernel⟩
set_option maxHeartbeats 4000000 in
set_option maxRecDepth 10000 in
theorem kX4_goes (l : Launch) (D : va_G) (cI cC cS : ClassId) (h : Nat) (ad : Nat → Nat) (σ α ς β τ q : Int → Int) (p : Int) (b1 : 0 ≤ p ∧ p < σ 0) (bn : 0 ≤ σ 0 ∧ σ 0 ≤ 16) : Kv l yX4_goes wsX4_goes rX4_goes D (tz cI cC cS) [.ref h, .int (jj p)] (mW cI h ad σ α ς β τ q) (mW cI h ad (goes σ p) α ς β τ q) := by
  refine q_entry (cc := cX4_goes) (nL := 3) (ret := none) (by decide) ⟨_, rfl⟩ (Nat.le_of_ble_eq_true rfl) ?_
  intro A pr en s m args below meth c C hin w ls hl
  have w := w
  have hl : lv_has ls 3 [(0, .ref h), (1, .int (jj p))] := hl
  refine q_aload_n C hl dX4_goes_0 rfl 0 rfl ?_
  refine q_getM C w.1 (fun w h => List.mem_cons_of_mem _ (List.mem_append_right _ h)) 0 (by decide) (List.mem_of_getElem? (i := 1) rfl) rfl dX4_goes_1 ?_
  refine q_iconst C dX4_goes_4 ?_
  refine q_dup2 C dX4_goes_5 rfl rfl ?_
  refine q_Mld C w.1 ⟨by omega, by omega⟩ dX4_goes_6 ?_
  refine q_iconst C dX4_goes_7 ?_
  refine q_isub C dX4_goes_8 ?_
  refine q_Mst C w ⟨by omega, by omega⟩ dX4_goes_9 (fun H locs w => ?_)
  refine q_iload_n C hl dX4_goes_10 rfl 1 rfl ?_
  refine q_iconst C dX4_goes_11 ?_
  refine q_runi C w fr_nil (q_S (As := [.int (jj p), .int (jj 0)]) (rest := []) C w fr_nil fX4_at gX4_goes_X4_at ⟨Nat.le_of_ble_eq_true rfl, Nat.le_of_ble_eq_true rfl⟩ (kX4_at l D cI cC cS p 0  _) rfl rfl hl (Nat.le_of_ble_eq_true rfl) dX4_goes_12 ⟨Nat.le_refl 0, Nat.le_refl 0⟩) (fun H locs w => ?_)
  refine q_istore_n (lv' := [(2, .int (jj (13 + 6 * p + 0))), (0, .ref h), (1, .int (jj p))]) C hl dX4_goes_15 rfl (by decide) rfl (fun ls hl => ?_)
  have loop16 : ∀ (n16 : Nat) (i : Int), (13 + 6 * p ≤ i) → (i ≤ 13 + 6 * (σ 0 - 1)) → (13 + 6 * (σ 0 - 1) - i).toNat < n16 → ∀ (H : Heap) (locs : List Loc), Wd D A s (mW cI h ad (gs1 σ p i) α ς β τ q) H locs → ∀ ls : Array Slot, lv_has ls 3 [(0, .ref h), (1, .int (jj p)), (2, .int (jj i))] → W pr l en rX4_goes s m args below meth c H locs 0 0 (MQ below (Qv D (tz cI cC cS) (mW cI h ad (goes σ p) α ς β τ q) A) args s 0 0 A) (F0 m 16 ls []) := by
    intro n16
    induction n16 with
    | zero => intro i hi0 hi1 hm; exact absurd hm (Nat.not_lt_zero _)
    | succ n16 ih16 =>
      intro i hi0 hi1 hm16 H locs w ls hl
      have ez := gs1_z σ p i
      refine q_iload_n C hl dX4_goes_16 rfl 2 rfl ?_
      refine q_aload_n C hl dX4_goes_17 rfl 0 rfl ?_
      refine q_getM C w.1 (fun w h => List.mem_cons_of_mem _ (List.mem_append_right _ h)) 0 (by decide) (List.mem_of_getElem? (i := 1) rfl) rfl dX4_goes_18 ?_
      refine q_iconst C dX4_goes_21 ?_
      refine q_Mld C w.1 ⟨by omega, by omega⟩ dX4_goes_22 ?_
      refine q_iconst C dX4_goes_23 ?_
      refine q_runi C w fr_nil (q_S (As := [.int (jj ((gs1 σ p i) 0)), .int (jj 0)]) (rest := [.int (jj i)]) C w fr_nil fX4_at gX4_goes_X4_at ⟨Nat.le_of_ble_eq_true rfl, Nat.le_of_ble_eq_true rfl⟩ (kX4_at l D cI cC cS ((gs1 σ p i) 0) 0  _) rfl rfl hl (Nat.le_of_ble_eq_true rfl) dX4_goes_24 ⟨Nat.le_refl 0, Nat.le_refl 0⟩) (fun H locs w => ?_)
      refine q_icmp_ge (tgt := 51) C dX4_goes_27 (by decide) ⟨by omega, by omega⟩ ⟨by omega, by omega⟩ (fun c1 => ?_) (fun c1 => ?_)
      · have c1 := c1
        refine q_iconst C dX4_goes_51 ?_
        refine q_istore_n (lv' := [(2, .int (jj 0)), (0, .ref h), (1, .int (jj p))]) C hl dX4_goes_52 rfl (by decide) rfl (fun ls hl => ?_)
        have loop53 : ∀ (n53 : Nat) (k : Int), (0 ≤ k) → (k ≤ 6) → (6 - k).toNat < n53 → ∀ (H : Heap) (locs : List Loc), Wd D A s (mW cI h ad (gs2 σ p k) α ς β τ q) H locs → ∀ ls : Array Slot, lv_has ls 3 [(0, .ref h), (1, .int (jj p)), (2, .int (jj k))] → W pr l en rX4_goes s m args below meth c H locs 0 0 (MQ below (Qv D (tz cI cC cS) (mW cI h ad (goes σ p) α ς β τ q) A) args s 0 0 A) (F0 m 53 ls []) := by
          intro n53
          induction n53 with
          | zero => intro k hk0 hk1 hm; exact absurd hm (Nat.not_lt_zero _)
          | succ n53 ih53 =>
            intro k hk0 hk1 hm53 H locs w ls hl
            have ez2 := gs2_z σ p k (by omega)
            refine q_iload_n C hl dX4_goes_53 rfl 2 rfl ?_
            refine q_bipush C dX4_goes_54 (by decide) ?_
            refine q_icmp_ge (tgt := 81) C dX4_goes_56 (by decide) ⟨by omega, by omega⟩ ⟨by omega, by omega⟩ (fun c2 => ?_) (fun c2 => ?_)
            · have c2 := c2
              exact q_vret C w dX4_goes_81 (by unfold goes; rw [show k = 6 by omega])
            · have c2 := c2
              refine q_aload_n C hl dX4_goes_59 rfl 0 rfl ?_
              refine q_getM C w.1 (fun w h => List.mem_cons_of_mem _ (List.mem_append_right _ h)) 0 (by decide) (List.mem_of_getElem? (i := 1) rfl) rfl dX4_goes_60 ?_
              refine q_aload_n C hl dX4_goes_63 rfl 0 rfl ?_
              refine q_getM C w.1 (fun w h => List.mem_cons_of_mem _ (List.mem_append_right _ h)) 0 (by decide) (List.mem_of_getElem? (i := 1) rfl) rfl dX4_goes_64 ?_
              refine q_iconst C dX4_goes_67 ?_
              refine q_Mld C w.1 ⟨by omega, by omega⟩ dX4_goes_68 ?_
              refine q_iload_n C hl dX4_goes_69 rfl 2 rfl ?_
              refine q_runi C w fr_nil (q_S (As := [.int (jj ((gs2 σ p k) 0)), .int (jj k)]) (rest := [.ref (ad 0)]) C w fr_nil fX4_at gX4_goes_X4_at ⟨Nat.le_of_ble_eq_true rfl, Nat.le_of_ble_eq_true rfl⟩ (kX4_at l D cI cC cS ((gs2 σ p k) 0) k  _) rfl rfl hl (Nat.le_of_ble_eq_true rfl) dX4_goes_70 ⟨Nat.le_refl 0, Nat.le_refl 0⟩) (fun H locs w => ?_)
              refine q_iconst C dX4_goes_73 ?_
              refine q_Mst C w ⟨by omega, by omega⟩ dX4_goes_74 (fun H locs w => ?_)
              refine q_iinc (lv' := [(2, .int (jj (k + 1))), (0, .ref h), (1, .int (jj p))]) C hl dX4_goes_75 2 rfl (by decide) rfl (fun ls hl => ?_)
              refine q_goto (tgt := 53) C dX4_goes_78 (by decide) ?_
              exact ih53 (k + 1) (by omega) (by omega) (by omega) _ _ (by rw [gs2_s σ p (by omega) hk0] at w; exact w) ls (lv_sub hl [1, 2, 0] rfl)
        exact loop53 _ 0 (by omega) (by omega) (Nat.lt_succ_self _) _ _ (by rw [show i = 13 + 6 * (σ 0 - 1) by omega, gs2_0] at w; exact w) ls (lv_sub hl [1, 2, 0] rfl)
      · have c1 := c1
        refine q_aload_n C hl dX4_goes_30 rfl 0 rfl ?_
        refine q_getM C w.1 (fun w h => List.mem_cons_of_mem _ (List.mem_append_right _ h)) 0 (by decide) (List.mem_of_getElem? (i := 1) rfl) rfl dX4_goes_31 ?_
        refine q_iload_n C hl dX4_goes_34 rfl 2 rfl ?_
        refine q_aload_n C hl dX4_goes_35 rfl 0 rfl ?_
        refine q_getM C w.1 (fun w h => List.mem_cons_of_mem _ (List.mem_append_right _ h)) 0 (by decide) (List.mem_of_getElem? (i := 1) rfl) rfl dX4_goes_36 ?_
        refine q_iload_n C hl dX4_goes_39 rfl 2 rfl ?_
        refine q_bipush C dX4_goes_40 (by decide) ?_
        refine q_iadd C dX4_goes_42 ?_
        refine q_Mld C w.1 ⟨by omega, by omega⟩ dX4_goes_43 ?_
        refine q_Mst C w ⟨by omega, by omega⟩ dX4_goes_44 (fun H locs w => ?_)
        refine q_iinc (lv' := [(2, .int (jj (i + 1))), (0, .ref h), (1, .int (jj p))]) C hl dX4_goes_45 2 rfl (by decide) rfl (fun ls hl => ?_)
        refine q_goto (tgt := 16) C dX4_goes_48 (by decide) ?_
        exact ih16 (i + 1) (by omega) (by omega) (by omega) _ _ (by rw [gs1_s σ b1.1 hi0] at w; exact w) ls (lv_sub hl [1, 2, 0] rfl)
  exact loop16 _ (13 + 6 * p + 0) (by omega) (by omega) (Nat.lt_succ_self _) _ _ (by rw [gs1_0 σ b1.1] at w; exact w) ls (lv_sub hl [1, 2, 0] rfl)

def rX4_served : Room := { frames := 0, cells := 0, slots := 0, locals := 0 }
theorem fX4_served : Fc yX4_served wsX4_served rX4_served cX4_served 1 (some .int) 0 := ⟨⟨_, rfl⟩, rfl, rfl, by decide +kernel, by decide +kernel, by decide +kernel⟩
set_option maxHeartbeats 4000000 in
set_option maxRecDepth 10000 in
theorem kX4_served (l : Launch) (D : va_G) (cI cC cS : ClassId) (h : Nat) (ad : Nat → Nat) (σ α ς β τ q : Int → Int)  (bn : 0 ≤ σ 0 ∧ σ 0 ≤ 16) (bv : 1 ≤ σ 11 ∧ σ 11 ≤ 4) : Ki l yX4_served wsX4_served rX4_served D (tz cI cC cS) [.ref h] (mW cI h ad σ α ς β τ q) (srv σ) (mW cI h ad σ α ς β τ q) := by
  refine q_entry (cc := cX4_served) (nL := 1) (ret := (some .int)) (by decide) ⟨_, rfl⟩ (Nat.le_of_ble_eq_true rfl) ?_
  intro A pr en s m args below meth c C hin w ls hl
  have w := w
  have hl : lv_has ls 1 [(0, .ref h)] := hl
  refine q_aload_n C hl dX4_served_0 rfl 0 rfl ?_
  refine q_getM C w.1 (fun w h => List.mem_cons_of_mem _ (List.mem_append_right _ h)) 0 (by decide) (List.mem_of_getElem? (i := 1) rfl) rfl dX4_served_1 ?_
  refine q_bipush C dX4_served_4 (by decide) ?_
  refine q_Mld C w.1 ⟨by omega, by omega⟩ dX4_served_6 ?_
  refine q_aload_n C hl dX4_served_7 rfl 0 rfl ?_
  refine q_getM C w.1 (fun w h => List.mem_cons_of_mem _ (List.mem_append_right _ h)) 0 (by decide) (List.mem_of_getElem? (i := 1) rfl) rfl dX4_served_8 ?_
  refine q_iconst C dX4_served_11 ?_
  refine q_Mld C w.1 ⟨by omega, by omega⟩ dX4_served_12 ?_
  refine q_icmp_ge (tgt := 26) C dX4_served_13 (by decide) ⟨by omega, by omega⟩ ⟨by omega, by omega⟩ (fun c1 => ?_) (fun c1 => ?_)
  · have c1 := c1
    refine q_aload_n C hl dX4_served_26 rfl 0 rfl ?_
    refine q_getM C w.1 (fun w h => List.mem_cons_of_mem _ (List.mem_append_right _ h)) 0 (by decide) (List.mem_of_getElem? (i := 1) rfl) rfl dX4_served_27 ?_
    refine q_iconst C dX4_served_30 ?_
    refine q_Mld C w.1 ⟨by omega, by omega⟩ dX4_served_31 ?_
    exact q_iret C w dX4_served_32 (by unfold srv; omega) rfl
  · have c1 := c1
    refine q_aload_n C hl dX4_served_16 rfl 0 rfl ?_
    refine q_getM C w.1 (fun w h => List.mem_cons_of_mem _ (List.mem_append_right _ h)) 0 (by decide) (List.mem_of_getElem? (i := 1) rfl) rfl dX4_served_17 ?_
    refine q_bipush C dX4_served_20 (by decide) ?_
    refine q_Mld C w.1 ⟨by omega, by omega⟩ dX4_served_22 ?_
    refine q_goto (tgt := 32) C dX4_served_23 (by decide) ?_
    exact q_iret C w dX4_served_32 (by unfold srv; omega) rfl

def rX4_driest : Room := { frames := 2, cells := 0, slots := 0, locals := 43 }
theorem fX4_driest : Fc yX4_driest wsX4_driest rX4_driest cX4_driest 3 (some .int) 0 := ⟨⟨_, rfl⟩, rfl, rfl, by decide +kernel, by decide +kernel, by decide +kernel⟩
set_option maxHeartbeats 4000000 in
set_option maxRecDepth 10000 in
theorem kX4_driest (l : Launch) (D : va_G) (cI cC cS : ClassId) (h : Nat) (ad : Nat → Nat) (σ α ς β τ q : Int → Int)  (bn : 1 ≤ σ 0 ∧ σ 0 ≤ 16) (bv : 1 ≤ σ 11 ∧ σ 11 ≤ 4) (bE : We σ) : Ki l yX4_driest wsX4_driest rX4_driest D (tz cI cC cS) [.ref h] (mW cI h ad σ α ς β τ q) (dri σ (srv σ)) (mW cI h ad σ α ς β τ q) := by
  have hs := srv_b bn bv
  refine q_entry (cc := cX4_driest) (nL := 3) (ret := (some .int)) (by decide) ⟨_, rfl⟩ (Nat.le_of_ble_eq_true rfl) ?_
  intro A pr en s m args below meth c C hin w ls hl
  have w := w
  have hl : lv_has ls 3 [(0, .ref h)] := hl
  refine q_iconst C dX4_driest_0 ?_
  refine q_istore_n (lv' := [(1, .int (jj 0)), (0, .ref h)]) C hl dX4_driest_1 rfl (by decide) rfl (fun ls hl => ?_)
  refine q_iconst C dX4_driest_2 ?_
  refine q_istore_n (lv' := [(2, .int (jj 1)), (1, .int (jj 0)), (0, .ref h)]) C hl dX4_driest_3 rfl (by decide) rfl (fun ls hl => ?_)
  have loop4 : ∀ (n4 : Nat) (i : Int) (f : Int), (1 ≤ i) → (i ≤ srv σ) → (f = dri σ i ∧ 0 ≤ f ∧ f < i) → (srv σ - i).toNat < n4 → ∀ (H : Heap) (locs : List Loc), Wd D A s (mW cI h ad σ α ς β τ q) H locs → ∀ ls : Array Slot, lv_has ls 3 [(0, .ref h), (1, .int (jj f)), (2, .int (jj i))] → W pr l en rX4_driest s m args below meth c H locs 0 0 (MQ below (Qi D (tz cI cC cS) (dri σ (srv σ)) (mW cI h ad σ α ς β τ q) A) args s 0 0 A) (F0 m 4 ls []) := by
    intro n4
    induction n4 with
    | zero => intro i f hi0 hi1 hf hm; exact absurd hm (Nat.not_lt_zero _)
    | succ n4 ih4 =>
      intro i f hi0 hi1 hf hm4 H locs w ls hl
      refine q_iload_n C hl dX4_driest_4 rfl 2 rfl ?_
      refine q_aload_n C hl dX4_driest_5 rfl 0 rfl ?_
      refine q_runi C w fr_all (q_V (As := []) (rest := [.int (jj i)]) C w fr_all fX4_served gX4_driest_X4_served rfl ⟨Nat.le_of_ble_eq_true rfl, Nat.le_of_ble_eq_true rfl⟩ (kX4_served l D cI cC cS h ad σ α ς β τ q  (by omega) (by omega) _) (q0 := 0) rfl rfl rfl rfl hl (Nat.le_of_ble_eq_true rfl) dX4_driest_6 ⟨Nat.le_refl 0, Nat.le_refl 0⟩) (fun H locs w => ?_)
      refine q_icmp_ge (tgt := 39) C dX4_driest_9 (by decide) ⟨by omega, by omega⟩ ⟨by omega, by omega⟩ (fun c1 => ?_) (fun c1 => ?_)
      · have c1 := c1
        refine q_iload_n C hl dX4_driest_39 rfl 1 rfl ?_
        exact q_iret C w dX4_driest_40 (by rw [hf.1, show i = srv σ by omega]) rfl
      · have c1 := c1
        have hq := bE i (by omega) (by omega)
        have hq2 := bE f (by omega) (by omega)
        refine q_aload_n C hl dX4_driest_12 rfl 0 rfl ?_
        refine q_iload_n C hl dX4_driest_13 rfl 2 rfl ?_
        refine q_iconst C dX4_driest_14 ?_
        refine q_runi C w fr_all (q_V (As := [.int (jj i), .int (jj 1)]) (rest := []) C w fr_all fX4_of gX4_driest_X4_of rfl ⟨Nat.le_of_ble_eq_true rfl, Nat.le_of_ble_eq_true rfl⟩ (kX4_of l D cI cC cS h ad σ α ς β τ q i 1 (by omega) (by omega) _) (q0 := 0) rfl rfl rfl rfl hl (Nat.le_of_ble_eq_true rfl) dX4_driest_15 ⟨Nat.le_refl 0, Nat.le_refl 0⟩) (fun H locs w => ?_)
        refine q_aload_n C hl dX4_driest_18 rfl 0 rfl ?_
        refine q_iload_n C hl dX4_driest_19 rfl 1 rfl ?_
        refine q_iconst C dX4_driest_20 ?_
        refine q_runi C w fr_all (q_V (As := [.int (jj f), .int (jj 1)]) (rest := [.int (jj (σ (13 + 6 * i + 1)))]) C w fr_all fX4_of gX4_driest_X4_of rfl ⟨Nat.le_of_ble_eq_true rfl, Nat.le_of_ble_eq_true rfl⟩ (kX4_of l D cI cC cS h ad σ α ς β τ q f 1 (by omega) (by omega) _) (q0 := 0) rfl rfl rfl rfl hl (Nat.le_of_ble_eq_true rfl) dX4_driest_21 ⟨Nat.le_refl 0, Nat.le_refl 0⟩) (fun H locs w => ?_)
        refine q_icmp_ge (tgt := 31) C dX4_driest_24 (by decide) ⟨by omega, by omega⟩ ⟨by omega, by omega⟩ (fun c2 => ?_) (fun c2 => ?_)
        · have c2 := c2
          refine q_iload_n C hl dX4_driest_31 rfl 1 rfl ?_
          refine q_istore_n (lv' := [(1, .int (jj f)), (0, .ref h), (2, .int (jj i))]) C hl dX4_driest_32 rfl (by decide) rfl (fun ls hl => ?_)
          refine q_iinc (lv' := [(2, .int (jj (i + 1))), (1, .int (jj f)), (0, .ref h)]) C hl dX4_driest_33 2 rfl (by decide) rfl (fun ls hl => ?_)
          refine q_goto (tgt := 4) C dX4_driest_36 (by decide) ?_
          exact ih4 (i + 1) f (by omega) (by omega) ⟨by rw [dri_s σ (by omega), ← hf.1]; unfold drf; split <;> omega, by omega, by omega⟩ (by omega) _ _ w ls (lv_sub hl [2, 1, 0] rfl)
        · have c2 := c2
          refine q_iload_n C hl dX4_driest_27 rfl 2 rfl ?_
          refine q_goto (tgt := 32) C dX4_driest_28 (by decide) ?_
          refine q_istore_n (lv' := [(1, .int (jj i)), (0, .ref h), (2, .int (jj i))]) C hl dX4_driest_32 rfl (by decide) rfl (fun ls hl => ?_)
          refine q_iinc (lv' := [(2, .int (jj (i + 1))), (1, .int (jj i)), (0, .ref h)]) C hl dX4_driest_33 2 rfl (by decide) rfl (fun ls hl => ?_)
          refine q_goto (tgt := 4) C dX4_driest_36 (by decide) ?_
          exact ih4 (i + 1) i (by omega) (by omega) ⟨by rw [dri_s σ (by omega), ← hf.1]; unfold drf; split <;> omega, by omega, by omega⟩ (by omega) _ _ w ls (lv_sub hl [2, 1, 0] rfl)
  exact loop4 _ 1 0 (by omega) (by omega) ⟨(dri_1 σ).symm, by omega, by omega⟩ (Nat.lt_succ_self _) _ _ w ls (lv_sub hl [2, 1, 0] rfl)

def rX4_coinsPaid : Room := { frames := 3, cells := 0, slots := 0, locals := 65 }
theorem fX4_coinsPaid : Fc yX4_coinsPaid wsX4_coinsPaid rX4_coinsPaid cX4_coinsPaid 2 (some .int) 0 := ⟨⟨_, rfl⟩, rfl, rfl, by decide +kernel, by decide +kernel, by decide +kernel⟩
set_option maxHeartbeats 4000000 in
set_option maxRecDepth 10000 in
theorem kX4_coinsPaid (l : Launch) (D : va_G) (cI cC cS : ClassId) (h : Nat) (ad : Nat → Nat) (σ α ς β τ q : Int → Int)  (bn : 1 ≤ σ 0 ∧ σ 0 ≤ 16) (bv : 1 ≤ σ 11 ∧ σ 11 ≤ 4) (bf : 0 ≤ σ 12 ∧ σ 12 ≤ 99) (bE : We σ) (bc : ∀ x : Int, 0 ≤ x → x < σ 0 → 0 ≤ σ (13 + 6 * x + 3) ∧ σ (13 + 6 * x + 3) ≤ 9999) : Ki l yX4_coinsPaid wsX4_coinsPaid rX4_coinsPaid D (tz cI cC cS) [.ref h] (mW cI h ad σ α ς β τ q) (cpd σ) (mW cI h ad σ α ς β τ q) := by
  have hs := srv_b bn bv
  have hd := dri_b σ (n := srv σ) (by omega)
  have hc := bc (dri σ (srv σ)) (by omega) (by omega)
  have hf := far_b (x := srv σ) (d := σ 12) (by omega) (by omega) bf.1 bf.2
  refine q_entry (cc := cX4_coinsPaid) (nL := 2) (ret := (some .int)) (by decide) ⟨_, rfl⟩ (Nat.le_of_ble_eq_true rfl) ?_
  intro A pr en s m args below meth c C hin w ls hl
  have w := w
  have hl : lv_has ls 2 [(0, .ref h)] := hl
  refine q_aload_n C hl dX4_coinsPaid_0 rfl 0 rfl ?_
  refine q_runi C w fr_all (q_V (As := []) (rest := []) C w fr_all fX4_served gX4_coinsPaid_X4_served rfl ⟨Nat.le_of_ble_eq_true rfl, Nat.le_of_ble_eq_true rfl⟩ (kX4_served l D cI cC cS h ad σ α ς β τ q  (by omega) (by omega) _) (q0 := 0) rfl rfl rfl rfl hl (Nat.le_of_ble_eq_true rfl) dX4_coinsPaid_1 ⟨Nat.le_refl 0, Nat.le_refl 0⟩) (fun H locs w => ?_)
  refine q_aload_n C hl dX4_coinsPaid_4 rfl 0 rfl ?_
  refine q_getM C w.1 (fun w h => List.mem_cons_of_mem _ (List.mem_append_right _ h)) 0 (by decide) (List.mem_of_getElem? (i := 1) rfl) rfl dX4_coinsPaid_5 ?_
  refine q_bipush C dX4_coinsPaid_8 (by decide) ?_
  refine q_Mld C w.1 ⟨by omega, by omega⟩ dX4_coinsPaid_10 ?_
  refine q_imul C dX4_coinsPaid_11 ?_
  refine q_istore_n (lv' := [(1, .int (jj ((srv σ) * (σ 12)))), (0, .ref h)]) C hl dX4_coinsPaid_12 rfl (by decide) rfl (fun ls hl => ?_)
  refine q_iload_n C hl dX4_coinsPaid_13 rfl 0 rfl ?_
  refine q_aload_n C hl dX4_coinsPaid_14 rfl 1 rfl ?_
  refine q_aload_n C hl dX4_coinsPaid_15 rfl 1 rfl ?_
  refine q_runi C w fr_all (q_V (As := []) (rest := [.ref h, .int (jj ((srv σ) * (σ 12)))]) C w fr_all fX4_driest gX4_coinsPaid_X4_driest rfl ⟨Nat.le_of_ble_eq_true rfl, Nat.le_of_ble_eq_true rfl⟩ (kX4_driest l D cI cC cS h ad σ α ς β τ q  (by omega) (by omega) bE _) (q0 := 0) rfl rfl rfl rfl hl (Nat.le_of_ble_eq_true rfl) dX4_coinsPaid_16 ⟨Nat.le_refl 0, Nat.le_refl 0⟩) (fun H locs w => ?_)
  refine q_iconst C dX4_coinsPaid_19 ?_
  refine q_runi C w fr_all (q_V (As := [.int (jj (dri σ (srv σ))), .int (jj 3)]) (rest := [.int (jj ((srv σ) * (σ 12)))]) C w fr_all fX4_of gX4_coinsPaid_X4_of rfl ⟨Nat.le_of_ble_eq_true rfl, Nat.le_of_ble_eq_true rfl⟩ (kX4_of l D cI cC cS h ad σ α ς β τ q (dri σ (srv σ)) 3 (by omega) (by omega) _) (q0 := 0) rfl rfl rfl rfl hl (Nat.le_of_ble_eq_true rfl) dX4_coinsPaid_20 ⟨Nat.le_refl 0, Nat.le_refl 0⟩) (fun H locs w => ?_)
  refine q_icmp_ge (tgt := 30) C dX4_coinsPaid_23 (by decide) ⟨by omega, by omega⟩ ⟨by omega, by omega⟩ (fun c1 => ?_) (fun c1 => ?_)
  · have c1 := c1
    refine q_aload_n C hl dX4_coinsPaid_30 rfl 1 rfl ?_
    refine q_aload_n C hl dX4_coinsPaid_31 rfl 1 rfl ?_
    refine q_runi C w fr_all (q_V (As := []) (rest := [.ref h]) C w fr_all fX4_driest gX4_coinsPaid_X4_driest rfl ⟨Nat.le_of_ble_eq_true rfl, Nat.le_of_ble_eq_true rfl⟩ (kX4_driest l D cI cC cS h ad σ α ς β τ q  (by omega) (by omega) bE _) (q0 := 0) rfl rfl rfl rfl hl (Nat.le_of_ble_eq_true rfl) dX4_coinsPaid_32 ⟨Nat.le_refl 0, Nat.le_refl 0⟩) (fun H locs w => ?_)
    refine q_iconst C dX4_coinsPaid_35 ?_
    refine q_runi C w fr_all (q_V (As := [.int (jj (dri σ (srv σ))), .int (jj 3)]) (rest := []) C w fr_all fX4_of gX4_coinsPaid_X4_of rfl ⟨Nat.le_of_ble_eq_true rfl, Nat.le_of_ble_eq_true rfl⟩ (kX4_of l D cI cC cS h ad σ α ς β τ q (dri σ (srv σ)) 3 (by omega) (by omega) _) (q0 := 0) rfl rfl rfl rfl hl (Nat.le_of_ble_eq_true rfl) dX4_coinsPaid_36 ⟨Nat.le_refl 0, Nat.le_refl 0⟩) (fun H locs w => ?_)
    exact q_iret C w dX4_coinsPaid_39 (by unfold cpd; omega) rfl
  · have c1 := c1
    refine q_iload_n C hl dX4_coinsPaid_26 rfl 0 rfl ?_
    refine q_goto (tgt := 39) C dX4_coinsPaid_27 (by decide) ?_
    exact q_iret C w dX4_coinsPaid_39 (by unfold cpd; omega) rfl
