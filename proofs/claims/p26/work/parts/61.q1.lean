def rX0_drafted : Room := { frames := 0, cells := 0, slots := 0, locals := 0 }
theorem fX0_drafted : Fc yX0_drafted wsX0_drafted rX0_drafted cX0_drafted 1 (some (.object "UmbrellaQueue$State")) 0 := ⟨⟨_, rfl⟩, rfl, rfl, by decide +kernel, by decide +kernel, by decide +kernel⟩
set_option maxHeartbeats 4000000 in
set_option maxRecDepth 10000 in
theorem kX0_drafted (l : Launch) (D : va_G) (cI cC cS : ClassId) (h har : Nat) (hs : Nat → Nat) (ha : Nat → Nat → Nat) (η : Nat → Int → Int) (dp : Int)  (bdp : 0 ≤ dp ∧ dp ≤ 4) : Kr l yX0_drafted wsX0_drafted rX0_drafted D (tz cI cC cS) [.ref h] (hW cI cS h har hs ha η dp) (hs dp.toNat) (hW cI cS h har hs ha η dp) := by
  refine q_entry (cc := cX0_drafted) (nL := 1) (ret := (some (.object "UmbrellaQueue$State"))) (by decide) ⟨_, rfl⟩ (Nat.le_of_ble_eq_true rfl) ?_
  intro A pr en s m args below meth c C hin w ls hl
  have w := w
  have hl : lv_has ls 1 [(0, .ref h)] := hl
  refine q_aload_n C hl dX0_drafted_0 rfl 0 rfl ?_
  refine q_getH C w.1 (fun w h => List.mem_cons_of_mem _ (List.mem_append_right _ h)) 0 (by decide) (List.mem_of_getElem? (i := 1) rfl) rfl dX0_drafted_1 ?_
  refine q_aload_n C hl dX0_drafted_4 rfl 0 rfl ?_
  refine q_getH C w.1 (fun w h => List.mem_cons_of_mem _ (List.mem_append_right _ h)) 1 (by decide) (List.mem_of_getElem? (i := 2) rfl) rfl dX0_drafted_5 ?_
  refine q_Hld C w.1 ⟨by omega, by omega⟩ dX0_drafted_8 ?_
  exact q_aret C w dX0_drafted_9 rfl rfl

def rX0_draft : Room := { frames := 2, cells := 0, slots := 0, locals := 81 }
theorem fX0_draft : Fc yX0_draft wsX0_draft rX0_draft cX0_draft 2 none 1 := ⟨⟨_, rfl⟩, rfl, rfl, by decide +kernel, by decide +kernel, by decide +kernel⟩
set_option maxHeartbeats 4000000 in
set_option maxRecDepth 10000 in
theorem kX0_draft (l : Launch) (D : va_G) (cI cC cS : ClassId) (h har : Nat) (hs : Nat → Nat) (ha : Nat → Nat → Nat) (η : Nat → Int → Int) (dp : Int) (h2 : Nat) (ad2 : Nat → Nat) (σ2 : Int → Int)  (bdp : 0 ≤ dp ∧ dp ≤ 4) : Kv l yX0_draft wsX0_draft rX0_draft D (tz cI cC cS) [.ref h, .ref h2] (hW cI cS h har hs ha η dp ++ cSt cI h2 ad2 σ2) (hW cI cS h har hs ha (upN η dp.toNat σ2) dp ++ cSt cI h2 ad2 σ2) := by
  refine q_entry (cc := cX0_draft) (nL := 2) (ret := none) (by decide) ⟨_, rfl⟩ (Nat.le_of_ble_eq_true rfl) ?_
  intro A pr en s m args below meth c C hin w ls hl
  have w := w
  have hl : lv_has ls 2 [(0, .ref h), (1, .ref h2)] := hl
  refine q_aload_n C hl dX0_draft_0 rfl 0 rfl ?_
  refine q_runr C w fr_hd (q_V (As := []) (rest := []) C w fr_hd fX0_drafted gX0_draft_X0_drafted rfl ⟨Nat.le_of_ble_eq_true rfl, Nat.le_of_ble_eq_true rfl⟩ (kX0_drafted l D cI cC cS h har hs ha η dp  (by omega) _) (q0 := 0) rfl rfl rfl rfl hl (Nat.le_of_ble_eq_true rfl) dX0_draft_1 ⟨Nat.le_refl 0, Nat.le_refl 0⟩) (fun H locs w => ?_)
  refine q_aload_n C hl dX0_draft_4 rfl 1 rfl ?_
  refine q_runv C w (fh_c (d := dp.toNat) (by omega)) (q_V (As := [.ref h2]) (rest := []) C w (fr_same (fh_c (v := σ2) (d := dp.toNat) (by omega))) fX1_copyFrom gX0_draft_X1_copyFrom rfl ⟨Nat.le_of_ble_eq_true rfl, Nat.le_of_ble_eq_true rfl⟩ (kX1_copyFrom l D cI cC cS (hs dp.toNat) (ha dp.toNat) (η dp.toNat) h2 ad2 σ2   _) (q0 := 0) rfl rfl rfl rfl hl (Nat.le_of_ble_eq_true rfl) dX0_draft_5 ⟨Nat.le_refl 0, Nat.le_refl 0⟩) (fun H locs w => ?_)
  exact q_vret C w dX0_draft_8 rfl

def rX0_keepDraft : Room := { frames := 0, cells := 0, slots := 0, locals := 0 }
theorem fX0_keepDraft : Fc yX0_keepDraft wsX0_keepDraft rX0_keepDraft cX0_keepDraft 3 none 0 := ⟨⟨_, rfl⟩, rfl, rfl, by decide +kernel, by decide +kernel, by decide +kernel⟩
set_option maxHeartbeats 4000000 in
set_option maxRecDepth 10000 in
theorem kX0_keepDraft (l : Launch) (D : va_G) (cI cC cS : ClassId) (h har : Nat) (hs : Nat → Nat) (ha : Nat → Nat → Nat) (η : Nat → Int → Int) (dp : Int)  (bdp : 0 ≤ dp ∧ dp ≤ 4) : Kv l yX0_keepDraft wsX0_keepDraft rX0_keepDraft D (tz cI cC cS) [.ref h] (hW cI cS h har hs ha η dp) (hW cI cS h har (kh dp hs) (kh dp ha) (kh dp η) (kdp dp)) := by
  refine q_entry (cc := cX0_keepDraft) (nL := 3) (ret := none) (by decide) ⟨_, rfl⟩ (Nat.le_of_ble_eq_true rfl) ?_
  intro A pr en s m args below meth c C hin w ls hl
  have w := w
  have hl : lv_has ls 3 [(0, .ref h)] := hl
  refine q_aload_n C hl dX0_keepDraft_0 rfl 0 rfl ?_
  refine q_getH C w.1 (fun w h => List.mem_cons_of_mem _ (List.mem_append_right _ h)) 1 (by decide) (List.mem_of_getElem? (i := 1) rfl) rfl dX0_keepDraft_1 ?_
  refine q_iconst C dX0_keepDraft_4 ?_
  refine q_icmp_ge (tgt := 19) C dX0_keepDraft_5 (by decide) ⟨by omega, by omega⟩ ⟨by omega, by omega⟩ (fun c1 => ?_) (fun c1 => ?_)
  · have c1 := c1
    refine q_aload_n C hl dX0_keepDraft_19 rfl 0 rfl ?_
    refine q_getH C w.1 (fun w h => List.mem_cons_of_mem _ (List.mem_append_right _ h)) 0 (by decide) (List.mem_of_getElem? (i := 2) rfl) rfl dX0_keepDraft_20 ?_
    refine q_iconst C dX0_keepDraft_23 ?_
    refine q_Hld C w.1 ⟨by omega, by omega⟩ dX0_keepDraft_24 ?_
    refine lv_astore_n (lv' := [(1, .ref (hs 0)), (0, .ref h)]) C.1 C.2.1 dX0_keepDraft_25 rfl hl (by decide) rfl (fun ls hl => ?_)
    refine q_iconst C dX0_keepDraft_26 ?_
    refine q_istore_n (lv' := [(2, .int (jj 0)), (1, .ref (hs 0)), (0, .ref h)]) C hl dX0_keepDraft_27 rfl (by decide) rfl (fun ls hl => ?_)
    refine q_iload_n C hl dX0_keepDraft_28 rfl 0 rfl ?_
    refine q_iconst C dX0_keepDraft_29 ?_
    refine q_icmp_ge (tgt := 53) C dX0_keepDraft_30 (by decide) ⟨by omega, by omega⟩ ⟨by omega, by omega⟩ (fun z => absurd z (by omega)) (fun _ => ?_)
    refine q_aload_n C hl dX0_keepDraft_33 rfl 2 rfl ?_
    refine q_getH C w.1 (fun w h => List.mem_cons_of_mem _ (List.mem_append_right _ h)) 0 (by decide) (List.mem_of_getElem? (i := 2) rfl) rfl dX0_keepDraft_34 ?_
    refine q_iload_n C hl dX0_keepDraft_37 rfl 0 rfl ?_
    refine q_aload_n C hl dX0_keepDraft_38 rfl 2 rfl ?_
    refine q_getH C w.1 (fun w h => List.mem_cons_of_mem _ (List.mem_append_right _ h)) 0 (by decide) (List.mem_of_getElem? (i := 2) rfl) rfl dX0_keepDraft_39 ?_
    refine q_iload_n C hl dX0_keepDraft_42 rfl 0 rfl ?_
    refine q_iconst C dX0_keepDraft_43 ?_
    refine q_iadd C dX0_keepDraft_44 ?_
    refine q_Hld C w.1 ⟨by omega, by omega⟩ dX0_keepDraft_45 ?_
    refine q_Hst (qk := 10) C w ⟨by omega, by omega⟩ rfl dX0_keepDraft_46 (fun H locs w => ?_)
    refine q_iinc (lv' := [(2, .int (jj 1)), (1, .ref (hs 0)), (0, .ref h)]) C hl dX0_keepDraft_47 0 rfl (by decide) rfl (fun ls hl => ?_)
    refine q_goto (tgt := 28) C dX0_keepDraft_50 (by decide) ?_
    refine q_iload_n C hl dX0_keepDraft_28 rfl 0 rfl ?_
    refine q_iconst C dX0_keepDraft_29 ?_
    refine q_icmp_ge (tgt := 53) C dX0_keepDraft_30 (by decide) ⟨by omega, by omega⟩ ⟨by omega, by omega⟩ (fun z => absurd z (by omega)) (fun _ => ?_)
    refine q_aload_n C hl dX0_keepDraft_33 rfl 2 rfl ?_
    refine q_getH C w.1 (fun w h => List.mem_cons_of_mem _ (List.mem_append_right _ h)) 0 (by decide) (List.mem_of_getElem? (i := 2) rfl) rfl dX0_keepDraft_34 ?_
    refine q_iload_n C hl dX0_keepDraft_37 rfl 0 rfl ?_
    refine q_aload_n C hl dX0_keepDraft_38 rfl 2 rfl ?_
    refine q_getH C w.1 (fun w h => List.mem_cons_of_mem _ (List.mem_append_right _ h)) 0 (by decide) (List.mem_of_getElem? (i := 2) rfl) rfl dX0_keepDraft_39 ?_
    refine q_iload_n C hl dX0_keepDraft_42 rfl 0 rfl ?_
    refine q_iconst C dX0_keepDraft_43 ?_
    refine q_iadd C dX0_keepDraft_44 ?_
    refine q_Hld C w.1 ⟨by omega, by omega⟩ dX0_keepDraft_45 ?_
    refine q_Hst (qk := 18) C w ⟨by omega, by omega⟩ rfl dX0_keepDraft_46 (fun H locs w => ?_)
    refine q_iinc (lv' := [(2, .int (jj 2)), (1, .ref (hs 0)), (0, .ref h)]) C hl dX0_keepDraft_47 0 rfl (by decide) rfl (fun ls hl => ?_)
    refine q_goto (tgt := 28) C dX0_keepDraft_50 (by decide) ?_
    refine q_iload_n C hl dX0_keepDraft_28 rfl 0 rfl ?_
    refine q_iconst C dX0_keepDraft_29 ?_
    refine q_icmp_ge (tgt := 53) C dX0_keepDraft_30 (by decide) ⟨by omega, by omega⟩ ⟨by omega, by omega⟩ (fun z => absurd z (by omega)) (fun _ => ?_)
    refine q_aload_n C hl dX0_keepDraft_33 rfl 2 rfl ?_
    refine q_getH C w.1 (fun w h => List.mem_cons_of_mem _ (List.mem_append_right _ h)) 0 (by decide) (List.mem_of_getElem? (i := 2) rfl) rfl dX0_keepDraft_34 ?_
    refine q_iload_n C hl dX0_keepDraft_37 rfl 0 rfl ?_
    refine q_aload_n C hl dX0_keepDraft_38 rfl 2 rfl ?_
    refine q_getH C w.1 (fun w h => List.mem_cons_of_mem _ (List.mem_append_right _ h)) 0 (by decide) (List.mem_of_getElem? (i := 2) rfl) rfl dX0_keepDraft_39 ?_
    refine q_iload_n C hl dX0_keepDraft_42 rfl 0 rfl ?_
    refine q_iconst C dX0_keepDraft_43 ?_
    refine q_iadd C dX0_keepDraft_44 ?_
    refine q_Hld C w.1 ⟨by omega, by omega⟩ dX0_keepDraft_45 ?_
    refine q_Hst (qk := 26) C w ⟨by omega, by omega⟩ rfl dX0_keepDraft_46 (fun H locs w => ?_)
    refine q_iinc (lv' := [(2, .int (jj 3)), (1, .ref (hs 0)), (0, .ref h)]) C hl dX0_keepDraft_47 0 rfl (by decide) rfl (fun ls hl => ?_)
    refine q_goto (tgt := 28) C dX0_keepDraft_50 (by decide) ?_
    refine q_iload_n C hl dX0_keepDraft_28 rfl 0 rfl ?_
    refine q_iconst C dX0_keepDraft_29 ?_
    refine q_icmp_ge (tgt := 53) C dX0_keepDraft_30 (by decide) ⟨by omega, by omega⟩ ⟨by omega, by omega⟩ (fun z => absurd z (by omega)) (fun _ => ?_)
    refine q_aload_n C hl dX0_keepDraft_33 rfl 2 rfl ?_
    refine q_getH C w.1 (fun w h => List.mem_cons_of_mem _ (List.mem_append_right _ h)) 0 (by decide) (List.mem_of_getElem? (i := 2) rfl) rfl dX0_keepDraft_34 ?_
    refine q_iload_n C hl dX0_keepDraft_37 rfl 0 rfl ?_
    refine q_aload_n C hl dX0_keepDraft_38 rfl 2 rfl ?_
    refine q_getH C w.1 (fun w h => List.mem_cons_of_mem _ (List.mem_append_right _ h)) 0 (by decide) (List.mem_of_getElem? (i := 2) rfl) rfl dX0_keepDraft_39 ?_
    refine q_iload_n C hl dX0_keepDraft_42 rfl 0 rfl ?_
    refine q_iconst C dX0_keepDraft_43 ?_
    refine q_iadd C dX0_keepDraft_44 ?_
    refine q_Hld C w.1 ⟨by omega, by omega⟩ dX0_keepDraft_45 ?_
    refine q_Hst (qk := 34) C w ⟨by omega, by omega⟩ rfl dX0_keepDraft_46 (fun H locs w => ?_)
    refine q_iinc (lv' := [(2, .int (jj 4)), (1, .ref (hs 0)), (0, .ref h)]) C hl dX0_keepDraft_47 0 rfl (by decide) rfl (fun ls hl => ?_)
    refine q_goto (tgt := 28) C dX0_keepDraft_50 (by decide) ?_
    refine q_iload_n C hl dX0_keepDraft_28 rfl 0 rfl ?_
    refine q_iconst C dX0_keepDraft_29 ?_
    refine q_icmp_ge (tgt := 53) C dX0_keepDraft_30 (by decide) ⟨by omega, by omega⟩ ⟨by omega, by omega⟩ (fun _ => ?_) (fun z => absurd z (by omega))
    refine q_aload_n C hl dX0_keepDraft_53 rfl 2 rfl ?_
    refine q_getH C w.1 (fun w h => List.mem_cons_of_mem _ (List.mem_append_right _ h)) 0 (by decide) (List.mem_of_getElem? (i := 2) rfl) rfl dX0_keepDraft_54 ?_
    refine q_iconst C dX0_keepDraft_57 ?_
    refine q_aload_n C hl dX0_keepDraft_58 rfl 1 rfl ?_
    refine q_Hst (qk := 2) C w ⟨by omega, by omega⟩ rfl dX0_keepDraft_59 (fun H locs w => ?_)
    have w : Wd D A s (hV cI cS h har (upA (upA (upA (upA (upA hs 0 (hs 1)) 1 (hs 2)) 2 (hs 3)) 3 (hs 4)) 4 (hs 0)) hs ha η dp) H locs := w
    rw [rot_A] at w
    have w := wd_perm hV_rot w
    exact q_vret C w dX0_keepDraft_60 (by unfold kh kdp; rw [if_neg (by omega), if_neg (by omega), if_neg (by omega), if_neg (by omega)])
  · have c1 := c1
    refine q_aload_n C hl dX0_keepDraft_8 rfl 0 rfl ?_
    refine q_dup C dX0_keepDraft_9 rfl ?_
    refine q_getH C w.1 (fun w h => List.mem_cons_of_mem _ (List.mem_append_right _ h)) 1 (by decide) (List.mem_of_getElem? (i := 1) rfl) rfl dX0_keepDraft_10 ?_
    refine q_iconst C dX0_keepDraft_13 ?_
    refine q_iadd C dX0_keepDraft_14 ?_
    refine q_putH C w (fun w h => List.mem_cons_of_mem _ (List.mem_append_right _ h)) (List.mem_of_getElem? (i := 1) rfl) dX0_keepDraft_15 (fun H locs w => ?_)
    exact q_vret C w dX0_keepDraft_18 (by unfold kh kdp; rw [if_pos (by omega), if_pos (by omega), if_pos (by omega), if_pos (by omega)])

def rX0_takeLatest : Room := { frames := 0, cells := 0, slots := 0, locals := 0 }
theorem fX0_takeLatest : Fc yX0_takeLatest wsX0_takeLatest rX0_takeLatest cX0_takeLatest 1 (some (.object "UmbrellaQueue$State")) 0 := ⟨⟨_, rfl⟩, rfl, rfl, by decide +kernel, by decide +kernel, by decide +kernel⟩
set_option maxHeartbeats 4000000 in
set_option maxRecDepth 10000 in
theorem kX0_takeLatest (l : Launch) (D : va_G) (cI cC cS : ClassId) (h har : Nat) (hs : Nat → Nat) (ha : Nat → Nat → Nat) (η : Nat → Int → Int) (dp : Int)  (bdp : 1 ≤ dp ∧ dp ≤ 4) : Kr l yX0_takeLatest wsX0_takeLatest rX0_takeLatest D (tz cI cC cS) [.ref h] (hW cI cS h har hs ha η dp) (hs (dp - 1).toNat) (hW cI cS h har hs ha η (dp - 1)) := by
  refine q_entry (cc := cX0_takeLatest) (nL := 1) (ret := (some (.object "UmbrellaQueue$State"))) (by decide) ⟨_, rfl⟩ (Nat.le_of_ble_eq_true rfl) ?_
  intro A pr en s m args below meth c C hin w ls hl
  have w := w
  have hl : lv_has ls 1 [(0, .ref h)] := hl
  refine q_aload_n C hl dX0_takeLatest_0 rfl 0 rfl ?_
  refine q_dup C dX0_takeLatest_1 rfl ?_
  refine q_getH C w.1 (fun w h => List.mem_cons_of_mem _ (List.mem_append_right _ h)) 1 (by decide) (List.mem_of_getElem? (i := 1) rfl) rfl dX0_takeLatest_2 ?_
  refine q_iconst C dX0_takeLatest_5 ?_
  refine q_isub C dX0_takeLatest_6 ?_
  refine q_putH C w (fun w h => List.mem_cons_of_mem _ (List.mem_append_right _ h)) (List.mem_of_getElem? (i := 1) rfl) dX0_takeLatest_7 (fun H locs w => ?_)
  refine q_aload_n C hl dX0_takeLatest_10 rfl 0 rfl ?_
  refine q_getH C w.1 (fun w h => List.mem_cons_of_mem _ (List.mem_append_right _ h)) 0 (by decide) (List.mem_of_getElem? (i := 2) rfl) rfl dX0_takeLatest_11 ?_
  refine q_aload_n C hl dX0_takeLatest_14 rfl 0 rfl ?_
  refine q_getH C w.1 (fun w h => List.mem_cons_of_mem _ (List.mem_append_right _ h)) 1 (by decide) (List.mem_of_getElem? (i := 1) rfl) rfl dX0_takeLatest_15 ?_
  refine q_Hld C w.1 ⟨by omega, by omega⟩ dX0_takeLatest_18 ?_
  exact q_aret C w dX0_takeLatest_19 rfl rfl
