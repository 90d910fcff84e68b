def rX3_isWithin : Room := { frames := 0, cells := 0, slots := 0, locals := 0 }
theorem fX3_isWithin : Fc yX3_isWithin wsX3_isWithin rX3_isWithin cX3_isWithin 3 (some .boolean) 3 := ⟨⟨_, rfl⟩, rfl, rfl, by decide +kernel, by decide +kernel, by decide +kernel⟩
set_option maxHeartbeats 4000000 in
set_option maxRecDepth 10000 in
theorem kX3_isWithin (l : Launch) (D : va_G) (cI cC cS : ClassId) (v lo hi : Int) (b1 : Bd v) (b2 : Bd lo) (b3 : Bd hi) : Ki l yX3_isWithin wsX3_isWithin rX3_isWithin D (tz cI cC cS) [.int (jj v), .int (jj lo), .int (jj hi)] ([]) (bI (lo ≤ v ∧ v ≤ hi)) ([]) := by
  refine q_entry (cc := cX3_isWithin) (nL := 3) (ret := (some .boolean)) (by decide) ⟨_, rfl⟩ (Nat.le_of_ble_eq_true rfl) ?_
  intro A pr en s m args below meth c C hin w ls hl
  have w := w
  have hl : lv_has ls 3 [(0, .int (jj v)), (1, .int (jj lo)), (2, .int (jj hi))] := hl
  refine q_iload_n C hl dX3_isWithin_0 rfl 0 rfl ?_
  refine q_iload_n C hl dX3_isWithin_1 rfl 1 rfl ?_
  refine q_icmp_lt (tgt := 14) C dX3_isWithin_2 (by decide) b1 b2 (fun c1 => ?_) (fun c1 => ?_)
  · have c1 := c1
    refine q_iconst C dX3_isWithin_14 ?_
    exact q_zret C w dX3_isWithin_15 (by first | exact (bI_t (by omega)).symm | exact (bI_f (by omega)).symm) rfl
  · have c1 := c1
    refine q_iload_n C hl dX3_isWithin_5 rfl 0 rfl ?_
    refine q_iload_n C hl dX3_isWithin_6 rfl 2 rfl ?_
    refine q_icmp_gt (tgt := 14) C dX3_isWithin_7 (by decide) b1 b3 (fun c2 => ?_) (fun c2 => ?_)
    · have c2 := c2
      refine q_iconst C dX3_isWithin_14 ?_
      exact q_zret C w dX3_isWithin_15 (by first | exact (bI_t (by omega)).symm | exact (bI_f (by omega)).symm) rfl
    · have c2 := c2
      refine q_iconst C dX3_isWithin_10 ?_
      refine q_goto (tgt := 15) C dX3_isWithin_11 (by decide) ?_
      exact q_zret C w dX3_isWithin_15 (by first | exact (bI_t (by omega)).symm | exact (bI_f (by omega)).symm) rfl

def rX3_isGust : Room := { frames := 1, cells := 0, slots := 0, locals := 22 }
theorem fX3_isGust : Fc yX3_isGust wsX3_isGust rX3_isGust cX3_isGust 2 (some .boolean) 2 := ⟨⟨_, rfl⟩, rfl, rfl, by decide +kernel, by decide +kernel, by decide +kernel⟩
set_option maxHeartbeats 4000000 in
set_option maxRecDepth 10000 in
theorem kX3_isGust (l : Launch) (D : va_G) (cI cC cS : ClassId) (d side : Int) (z_d : -2147483648 ≤ d ∧ d ≤ 2147483647) (z_side : -2147483648 ≤ side ∧ side ≤ 2147483647) : Ki l yX3_isGust wsX3_isGust rX3_isGust D (tz cI cC cS) [.int (jj d), .int (jj side)] ([]) (bI (gst d side)) ([]) := by
  refine q_entry (cc := cX3_isGust) (nL := 2) (ret := (some .boolean)) (by decide) ⟨_, rfl⟩ (Nat.le_of_ble_eq_true rfl) ?_
  intro A pr en s m args below meth c C hin w ls hl
  have w := w
  have hl : lv_has ls 2 [(0, .int (jj d)), (1, .int (jj side))] := hl
  refine q_iload_n C hl dX3_isGust_0 rfl 0 rfl ?_
  refine q_iconst C dX3_isGust_1 ?_
  refine q_bipush C dX3_isGust_2 (by decide) ?_
  refine q_runi C w fr_nil (q_S (As := [.int (jj d), .int (jj 1), .int (jj 99)]) (rest := []) C w fr_nil fX3_isWithin gX3_isGust_X3_isWithin ⟨Nat.le_of_ble_eq_true rfl, Nat.le_of_ble_eq_true rfl⟩ (kX3_isWithin l D cI cC cS d 1 99 ⟨by omega, by omega⟩ ⟨by omega, by omega⟩ ⟨by omega, by omega⟩ _) rfl rfl hl (Nat.le_of_ble_eq_true rfl) dX3_isGust_4 ⟨Nat.le_refl 0, Nat.le_refl 0⟩) (fun H locs w => ?_)
  refine q_ifz_eq (tgt := 23) C dX3_isGust_7 (by decide) (fun c1 => ?_) (fun c1 => ?_)
  · have c1 := c1
    refine q_iconst C dX3_isGust_23 ?_
    exact q_zret C w dX3_isGust_24 (by first | exact (bI_t (by omega)).symm | exact (bI_f (by omega)).symm) rfl
  · have c1 := c1
    refine q_iload_n C hl dX3_isGust_10 rfl 1 rfl ?_
    refine q_iconst C dX3_isGust_11 ?_
    refine q_iconst C dX3_isGust_12 ?_
    refine q_runi C w fr_nil (q_S (As := [.int (jj side), .int (jj 0), .int (jj 2)]) (rest := []) C w fr_nil fX3_isWithin gX3_isGust_X3_isWithin ⟨Nat.le_of_ble_eq_true rfl, Nat.le_of_ble_eq_true rfl⟩ (kX3_isWithin l D cI cC cS side 0 2 ⟨by omega, by omega⟩ ⟨by omega, by omega⟩ ⟨by omega, by omega⟩ _) rfl rfl hl (Nat.le_of_ble_eq_true rfl) dX3_isGust_13 ⟨Nat.le_refl 0, Nat.le_refl 0⟩) (fun H locs w => ?_)
    refine q_ifz_eq (tgt := 23) C dX3_isGust_16 (by decide) (fun c2 => ?_) (fun c2 => ?_)
    · have c2 := c2
      refine q_iconst C dX3_isGust_23 ?_
      exact q_zret C w dX3_isGust_24 (by first | exact (bI_t (by omega)).symm | exact (bI_f (by omega)).symm) rfl
    · have c2 := c2
      refine q_iconst C dX3_isGust_19 ?_
      refine q_goto (tgt := 24) C dX3_isGust_20 (by decide) ?_
      exact q_zret C w dX3_isGust_24 (by first | exact (bI_t (by omega)).symm | exact (bI_f (by omega)).symm) rfl

def rX1_closeGap : Room := { frames := 1, cells := 0, slots := 0, locals := 60 }
theorem fX1_closeGap : Fc yX1_closeGap wsX1_closeGap rX1_closeGap cX1_closeGap 2 none 2 := ⟨⟨_, rfl⟩, rfl, rfl, by decide +kernel, by decide +kernel, by decide +kernel⟩
set_option maxHeartbeats 4000000 in
set_option maxRecDepth 10000 in
theorem kX1_closeGap (l : Launch) (D : va_G) (cI cC cS : ClassId) (a : Nat) (f : Int → Int) (p : Int) (bp : 0 ≤ p ∧ p ≤ 15) : Kv l yX1_closeGap wsX1_closeGap rX1_closeGap D (tz cI cC cS) [.ref a, .int (jj p)] ([(a, .inl (cI, 16, .inl (ac f)))]) ([(a, .inl (cI, 16, .inl (ac (cgp f p))))]) := by
  refine q_entry (cc := cX1_closeGap) (nL := 2) (ret := none) (by decide) ⟨_, rfl⟩ (Nat.le_of_ble_eq_true rfl) ?_
  intro A pr en s m args below meth c C hin w ls hl
  have w := w
  have hl : lv_has ls 2 [(0, .ref a), (1, .int (jj p))] := hl
  refine q_aload_n C hl dX1_closeGap_0 rfl 0 rfl ?_
  refine q_iload_n C hl dX1_closeGap_1 rfl 1 rfl ?_
  refine q_iconst C dX1_closeGap_2 ?_
  refine q_iadd C dX1_closeGap_3 ?_
  refine q_aload_n C hl dX1_closeGap_4 rfl 0 rfl ?_
  refine q_iload_n C hl dX1_closeGap_5 rfl 1 rfl ?_
  refine q_bipush C dX1_closeGap_6 (by decide) ?_
  refine q_iload_n C hl dX1_closeGap_8 rfl 1 rfl ?_
  refine q_isub C dX1_closeGap_9 ?_
  refine q_cpy (rest := []) C w hl (List.mem_of_getElem? (i := 1) rfl) (List.mem_of_getElem? (i := 2) rfl) (List.mem_of_getElem? (i := 3) rfl) (List.mem_of_getElem? (i := 4) rfl) 0 0 rfl rfl ⟨by omega, by omega⟩ ⟨by omega, by omega⟩ ⟨by omega, by omega⟩ (by omega) (by omega) (Nat.le_of_ble_eq_true rfl) (Nat.le_of_ble_eq_true rfl) dX1_closeGap_10 (cg_eq a cI f p) (fun H locs w => ?_)
  exact q_vret C w dX1_closeGap_13 rfl

def rX1_exchange : Room := { frames := 0, cells := 0, slots := 0, locals := 0 }
theorem fX1_exchange : Fc yX1_exchange wsX1_exchange rX1_exchange cX1_exchange 3 none 2 := ⟨⟨_, rfl⟩, rfl, rfl, by decide +kernel, by decide +kernel, by decide +kernel⟩
set_option maxHeartbeats 4000000 in
set_option maxRecDepth 10000 in
theorem kX1_exchange (l : Launch) (D : va_G) (cI cC cS : ClassId) (a : Nat) (f : Int → Int) (p : Int) (bp : 0 ≤ p ∧ p ≤ 14) : Kv l yX1_exchange wsX1_exchange rX1_exchange D (tz cI cC cS) [.ref a, .int (jj p)] ([(a, .inl (cI, 16, .inl (ac f)))]) ([(a, .inl (cI, 16, .inl (ac (xcr f p))))]) := by
  refine q_entry (cc := cX1_exchange) (nL := 3) (ret := none) (by decide) ⟨_, rfl⟩ (Nat.le_of_ble_eq_true rfl) ?_
  intro A pr en s m args below meth c C hin w ls hl
  have w := w
  have hl : lv_has ls 3 [(0, .ref a), (1, .int (jj p))] := hl
  refine q_aload_n C hl dX1_exchange_0 rfl 0 rfl ?_
  refine q_iload_n C hl dX1_exchange_1 rfl 1 rfl ?_
  refine q_iald (n := 16) (f := f) C w.1 0 0 rfl rfl ⟨by omega, by omega, by omega⟩ dX1_exchange_2 ?_
  refine q_istore_n (lv' := [(2, .int (jj (f p))), (0, .ref a), (1, .int (jj p))]) C hl dX1_exchange_3 rfl (by decide) rfl (fun ls hl => ?_)
  refine q_aload_n C hl dX1_exchange_4 rfl 1 rfl ?_
  refine q_iload_n C hl dX1_exchange_5 rfl 2 rfl ?_
  refine q_aload_n C hl dX1_exchange_6 rfl 1 rfl ?_
  refine q_iload_n C hl dX1_exchange_7 rfl 2 rfl ?_
  refine q_iconst C dX1_exchange_8 ?_
  refine q_iadd C dX1_exchange_9 ?_
  refine q_iald (n := 16) (f := f) C w.1 0 0 rfl rfl ⟨by omega, by omega, by omega⟩ dX1_exchange_10 ?_
  refine q_iast (ws' := [(a, .inl (cI, 16, .inl (ac (up f p (f (p + 1))))))]) (n := 16) (f := f) C w 0 0 rfl rfl ⟨by omega, by omega, by omega⟩ dX1_exchange_11 rfl (fun H locs w => ?_)
  refine q_aload_n C hl dX1_exchange_12 rfl 1 rfl ?_
  refine q_iload_n C hl dX1_exchange_13 rfl 2 rfl ?_
  refine q_iconst C dX1_exchange_14 ?_
  refine q_iadd C dX1_exchange_15 ?_
  refine q_iload_n C hl dX1_exchange_16 rfl 0 rfl ?_
  refine q_iast (ws' := [(a, .inl (cI, 16, .inl (ac (up (up f p (f (p + 1))) (p + 1) (f p)))))]) (n := 16) (f := up f p (f (p + 1))) C w 0 0 rfl rfl ⟨by omega, by omega, by omega⟩ dX1_exchange_17 rfl (fun H locs w => ?_)
  exact q_vret C w dX1_exchange_18 rfl

def rX1_copyFrom : Room := { frames := 1, cells := 0, slots := 0, locals := 60 }
theorem fX1_copyFrom : Fc yX1_copyFrom wsX1_copyFrom rX1_copyFrom cX1_copyFrom 2 none 1 := ⟨⟨_, rfl⟩, rfl, rfl, by decide +kernel, by decide +kernel, by decide +kernel⟩
set_option maxHeartbeats 4000000 in
set_option maxRecDepth 10000 in
theorem kX1_copyFrom (l : Launch) (D : va_G) (cI cC cS : ClassId) (h : Nat) (ad : Nat → Nat) (σ : Int → Int) (h2 : Nat) (ad2 : Nat → Nat) (σ2 : Int → Int)   : Kv l yX1_copyFrom wsX1_copyFrom rX1_copyFrom D (tz cI cC cS) [.ref h, .ref h2] (cSt cI h ad σ ++ cSt cI h2 ad2 σ2) (cSt cI h ad σ2 ++ cSt cI h2 ad2 σ2) := by
  refine q_entry (cc := cX1_copyFrom) (nL := 2) (ret := none) (by decide) ⟨_, rfl⟩ (Nat.le_of_ble_eq_true rfl) ?_
  intro A pr en s m args below meth c C hin w ls hl
  have w := w
  have hl : lv_has ls 2 [(0, .ref h), (1, .ref h2)] := hl
  have w : Wd D A s (cSt cI h ad (cpf σ σ2 0) ++ cSt cI h2 ad2 σ2) s.heap [] := by rw [cpf_0]; exact w
  refine q_aload_n C hl dX1_copyFrom_0 rfl 1 rfl ?_
  refine q_getS C (vP_r w.1) (fun w h => List.mem_cons_of_mem _ (List.mem_append_right _ h)) 0 (by decide) (List.mem_of_getElem? (i := 1) rfl) rfl dX1_copyFrom_1 ?_
  refine q_iconst C dX1_copyFrom_4 ?_
  refine q_aload_n C hl dX1_copyFrom_5 rfl 0 rfl ?_
  refine q_getS C (vP_l w.1) (fun w h => List.mem_cons_of_mem _ (List.mem_append_right _ h)) 0 (by decide) (List.mem_of_getElem? (i := 1) rfl) rfl dX1_copyFrom_6 ?_
  refine q_iconst C dX1_copyFrom_9 ?_
  refine q_bipush C dX1_copyFrom_10 (by decide) ?_
  refine q_cpy (rest := []) C w hl (List.mem_of_getElem? (i := 2) rfl) (List.mem_of_getElem? (i := 3) rfl) (List.mem_of_getElem? (i := 4) rfl) (List.mem_of_getElem? (i := 5) rfl) 9 1 rfl rfl ⟨by omega, by omega⟩ ⟨by omega, by omega⟩ ⟨by omega, by omega⟩ (by omega) (by omega) (Nat.le_of_ble_eq_true rfl) (Nat.le_of_ble_eq_true rfl) dX1_copyFrom_12 (congrArg (fun z => z ++ cSt cI h2 ad2 σ2) (ec0 cI h ad σ σ2)) (fun H locs w => ?_)
  refine q_aload_n C hl dX1_copyFrom_15 rfl 1 rfl ?_
  refine q_getS C (vP_r w.1) (fun w h => List.mem_cons_of_mem _ (List.mem_append_right _ h)) 1 (by decide) (List.mem_of_getElem? (i := 6) rfl) rfl dX1_copyFrom_16 ?_
  refine q_iconst C dX1_copyFrom_19 ?_
  refine q_aload_n C hl dX1_copyFrom_20 rfl 0 rfl ?_
  refine q_getS C (vP_l w.1) (fun w h => List.mem_cons_of_mem _ (List.mem_append_right _ h)) 1 (by decide) (List.mem_of_getElem? (i := 6) rfl) rfl dX1_copyFrom_21 ?_
  refine q_iconst C dX1_copyFrom_24 ?_
  refine q_bipush C dX1_copyFrom_25 (by decide) ?_
  refine q_cpy (rest := []) C w hl (List.mem_of_getElem? (i := 2) rfl) (List.mem_of_getElem? (i := 3) rfl) (List.mem_of_getElem? (i := 4) rfl) (List.mem_of_getElem? (i := 5) rfl) 10 2 rfl rfl ⟨by omega, by omega⟩ ⟨by omega, by omega⟩ ⟨by omega, by omega⟩ (by omega) (by omega) (Nat.le_of_ble_eq_true rfl) (Nat.le_of_ble_eq_true rfl) dX1_copyFrom_27 (congrArg (fun z => z ++ cSt cI h2 ad2 σ2) (ec1 cI h ad σ σ2)) (fun H locs w => ?_)
  refine q_aload_n C hl dX1_copyFrom_30 rfl 1 rfl ?_
  refine q_getS C (vP_r w.1) (fun w h => List.mem_cons_of_mem _ (List.mem_append_right _ h)) 2 (by decide) (List.mem_of_getElem? (i := 7) rfl) rfl dX1_copyFrom_31 ?_
  refine q_iconst C dX1_copyFrom_34 ?_
  refine q_aload_n C hl dX1_copyFrom_35 rfl 0 rfl ?_
  refine q_getS C (vP_l w.1) (fun w h => List.mem_cons_of_mem _ (List.mem_append_right _ h)) 2 (by decide) (List.mem_of_getElem? (i := 7) rfl) rfl dX1_copyFrom_36 ?_
  refine q_iconst C dX1_copyFrom_39 ?_
  refine q_bipush C dX1_copyFrom_40 (by decide) ?_
  refine q_cpy (rest := []) C w hl (List.mem_of_getElem? (i := 2) rfl) (List.mem_of_getElem? (i := 3) rfl) (List.mem_of_getElem? (i := 4) rfl) (List.mem_of_getElem? (i := 5) rfl) 11 3 rfl rfl ⟨by omega, by omega⟩ ⟨by omega, by omega⟩ ⟨by omega, by omega⟩ (by omega) (by omega) (Nat.le_of_ble_eq_true rfl) (Nat.le_of_ble_eq_true rfl) dX1_copyFrom_42 (congrArg (fun z => z ++ cSt cI h2 ad2 σ2) (ec2 cI h ad σ σ2)) (fun H locs w => ?_)
  refine q_aload_n C hl dX1_copyFrom_45 rfl 1 rfl ?_
  refine q_getS C (vP_r w.1) (fun w h => List.mem_cons_of_mem _ (List.mem_append_right _ h)) 3 (by decide) (List.mem_of_getElem? (i := 8) rfl) rfl dX1_copyFrom_46 ?_
  refine q_iconst C dX1_copyFrom_49 ?_
  refine q_aload_n C hl dX1_copyFrom_50 rfl 0 rfl ?_
  refine q_getS C (vP_l w.1) (fun w h => List.mem_cons_of_mem _ (List.mem_append_right _ h)) 3 (by decide) (List.mem_of_getElem? (i := 8) rfl) rfl dX1_copyFrom_51 ?_
  refine q_iconst C dX1_copyFrom_54 ?_
  refine q_bipush C dX1_copyFrom_55 (by decide) ?_
  refine q_cpy (rest := []) C w hl (List.mem_of_getElem? (i := 2) rfl) (List.mem_of_getElem? (i := 3) rfl) (List.mem_of_getElem? (i := 4) rfl) (List.mem_of_getElem? (i := 5) rfl) 12 4 rfl rfl ⟨by omega, by omega⟩ ⟨by omega, by omega⟩ ⟨by omega, by omega⟩ (by omega) (by omega) (Nat.le_of_ble_eq_true rfl) (Nat.le_of_ble_eq_true rfl) dX1_copyFrom_57 (congrArg (fun z => z ++ cSt cI h2 ad2 σ2) (ec3 cI h ad σ σ2)) (fun H locs w => ?_)
  refine q_aload_n C hl dX1_copyFrom_60 rfl 1 rfl ?_
  refine q_getS C (vP_r w.1) (fun w h => List.mem_cons_of_mem _ (List.mem_append_right _ h)) 4 (by decide) (List.mem_of_getElem? (i := 9) rfl) rfl dX1_copyFrom_61 ?_
  refine q_iconst C dX1_copyFrom_64 ?_
  refine q_aload_n C hl dX1_copyFrom_65 rfl 0 rfl ?_
  refine q_getS C (vP_l w.1) (fun w h => List.mem_cons_of_mem _ (List.mem_append_right _ h)) 4 (by decide) (List.mem_of_getElem? (i := 9) rfl) rfl dX1_copyFrom_66 ?_
  refine q_iconst C dX1_copyFrom_69 ?_
  refine q_bipush C dX1_copyFrom_70 (by decide) ?_
  refine q_cpy (rest := []) C w hl (List.mem_of_getElem? (i := 2) rfl) (List.mem_of_getElem? (i := 3) rfl) (List.mem_of_getElem? (i := 4) rfl) (List.mem_of_getElem? (i := 5) rfl) 13 5 rfl rfl ⟨by omega, by omega⟩ ⟨by omega, by omega⟩ ⟨by omega, by omega⟩ (by omega) (by omega) (Nat.le_of_ble_eq_true rfl) (Nat.le_of_ble_eq_true rfl) dX1_copyFrom_72 (congrArg (fun z => z ++ cSt cI h2 ad2 σ2) (ec4 cI h ad σ σ2)) (fun H locs w => ?_)
  refine q_aload_n C hl dX1_copyFrom_75 rfl 1 rfl ?_
  refine q_getS C (vP_r w.1) (fun w h => List.mem_cons_of_mem _ (List.mem_append_right _ h)) 5 (by decide) (List.mem_of_getElem? (i := 10) rfl) rfl dX1_copyFrom_76 ?_
  refine q_iconst C dX1_copyFrom_79 ?_
  refine q_aload_n C hl dX1_copyFrom_80 rfl 0 rfl ?_
  refine q_getS C (vP_l w.1) (fun w h => List.mem_cons_of_mem _ (List.mem_append_right _ h)) 5 (by decide) (List.mem_of_getElem? (i := 10) rfl) rfl dX1_copyFrom_81 ?_
  refine q_iconst C dX1_copyFrom_84 ?_
  refine q_bipush C dX1_copyFrom_85 (by decide) ?_
  refine q_cpy (rest := []) C w hl (List.mem_of_getElem? (i := 2) rfl) (List.mem_of_getElem? (i := 3) rfl) (List.mem_of_getElem? (i := 4) rfl) (List.mem_of_getElem? (i := 5) rfl) 14 6 rfl rfl ⟨by omega, by omega⟩ ⟨by omega, by omega⟩ ⟨by omega, by omega⟩ (by omega) (by omega) (Nat.le_of_ble_eq_true rfl) (Nat.le_of_ble_eq_true rfl) dX1_copyFrom_87 (congrArg (fun z => z ++ cSt cI h2 ad2 σ2) (ec5 cI h ad σ σ2)) (fun H locs w => ?_)
  refine q_aload_n C hl dX1_copyFrom_90 rfl 1 rfl ?_
  refine q_getS C (vP_r w.1) (fun w h => List.mem_cons_of_mem _ (List.mem_append_right _ h)) 6 (by decide) (List.mem_of_getElem? (i := 11) rfl) rfl dX1_copyFrom_91 ?_
  refine q_iconst C dX1_copyFrom_94 ?_
  refine q_aload_n C hl dX1_copyFrom_95 rfl 0 rfl ?_
  refine q_getS C (vP_l w.1) (fun w h => List.mem_cons_of_mem _ (List.mem_append_right _ h)) 6 (by decide) (List.mem_of_getElem? (i := 11) rfl) rfl dX1_copyFrom_96 ?_
  refine q_iconst C dX1_copyFrom_99 ?_
  refine q_aload_n C hl dX1_copyFrom_100 rfl 0 rfl ?_
  refine q_getS C (vP_l w.1) (fun w h => List.mem_cons_of_mem _ (List.mem_append_right _ h)) 6 (by decide) (List.mem_of_getElem? (i := 11) rfl) rfl dX1_copyFrom_101 ?_
  refine va_alen (v := jj 3) C.1 C.2.1 C.K w.1 7 0 rfl rfl rfl dX1_copyFrom_104 ?_
  refine q_cpy (rest := []) C w hl (List.mem_of_getElem? (i := 2) rfl) (List.mem_of_getElem? (i := 3) rfl) (List.mem_of_getElem? (i := 4) rfl) (List.mem_of_getElem? (i := 5) rfl) 15 7 rfl rfl ⟨by omega, by omega⟩ ⟨by omega, by omega⟩ ⟨by omega, by omega⟩ (by omega) (by omega) (Nat.le_of_ble_eq_true rfl) (Nat.le_of_ble_eq_true rfl) dX1_copyFrom_105 (congrArg (fun z => z ++ cSt cI h2 ad2 σ2) (ec6 cI h ad (cpf σ σ2 6) σ2)) (fun H locs w => ?_)
  refine q_aload_n C hl dX1_copyFrom_108 rfl 0 rfl ?_
  refine q_aload_n C hl dX1_copyFrom_109 rfl 1 rfl ?_
  refine q_getS C (vP_r w.1) (fun w h => List.mem_cons_of_mem _ (List.mem_append_right _ h)) 7 (by decide) (List.mem_of_getElem? (i := 12) rfl) rfl dX1_copyFrom_110 ?_
  refine q_putS2 C w (fun w h => List.mem_cons_of_mem _ (List.mem_append_right _ h)) 0 (by decide) (List.mem_of_getElem? (i := 12) rfl) rfl rfl dX1_copyFrom_113 (fun H locs w => ?_)
  refine q_aload_n C hl dX1_copyFrom_116 rfl 0 rfl ?_
  refine q_aload_n C hl dX1_copyFrom_117 rfl 1 rfl ?_
  refine q_getS C (vP_r w.1) (fun w h => List.mem_cons_of_mem _ (List.mem_append_right _ h)) 8 (by decide) (List.mem_of_getElem? (i := 13) rfl) rfl dX1_copyFrom_118 ?_
  refine q_putS2 C w (fun w h => List.mem_cons_of_mem _ (List.mem_append_right _ h)) 1 (by decide) (List.mem_of_getElem? (i := 13) rfl) rfl rfl dX1_copyFrom_121 (fun H locs w => ?_)
  refine q_aload_n C hl dX1_copyFrom_124 rfl 0 rfl ?_
  refine q_aload_n C hl dX1_copyFrom_125 rfl 1 rfl ?_
  refine q_getS C (vP_r w.1) (fun w h => List.mem_cons_of_mem _ (List.mem_append_right _ h)) 9 (by decide) (List.mem_of_getElem? (i := 14) rfl) rfl dX1_copyFrom_126 ?_
  refine q_putS2 C w (fun w h => List.mem_cons_of_mem _ (List.mem_append_right _ h)) 2 (by decide) (List.mem_of_getElem? (i := 14) rfl) rfl rfl dX1_copyFrom_129 (fun H locs w => ?_)
  refine q_aload_n C hl dX1_copyFrom_132 rfl 0 rfl ?_
  refine q_aload_n C hl dX1_copyFrom_133 rfl 1 rfl ?_
  refine q_getS C (vP_r w.1) (fun w h => List.mem_cons_of_mem _ (List.mem_append_right _ h)) 10 (by decide) (List.mem_of_getElem? (i := 15) rfl) rfl dX1_copyFrom_134 ?_
  refine q_putS2 C w (fun w h => List.mem_cons_of_mem _ (List.mem_append_right _ h)) 3 (by decide) (List.mem_of_getElem? (i := 15) rfl) rfl rfl dX1_copyFrom_137 (fun H locs w => ?_)
  refine q_aload_n C hl dX1_copyFrom_140 rfl 0 rfl ?_
  refine q_aload_n C hl dX1_copyFrom_141 rfl 1 rfl ?_
  refine q_getS C (vP_r w.1) (fun w h => List.mem_cons_of_mem _ (List.mem_append_right _ h)) 11 (by decide) (List.mem_of_getElem? (i := 16) rfl) rfl dX1_copyFrom_142 ?_
  refine q_putS2 C w (fun w h => List.mem_cons_of_mem _ (List.mem_append_right _ h)) 4 (by decide) (List.mem_of_getElem? (i := 16) rfl) rfl rfl dX1_copyFrom_145 (fun H locs w => ?_)
  refine q_aload_n C hl dX1_copyFrom_148 rfl 0 rfl ?_
  refine q_aload_n C hl dX1_copyFrom_149 rfl 1 rfl ?_
  refine q_getS C (vP_r w.1) (fun w h => List.mem_cons_of_mem _ (List.mem_append_right _ h)) 12 (by decide) (List.mem_of_getElem? (i := 17) rfl) rfl dX1_copyFrom_150 ?_
  refine q_putS2 C w (fun w h => List.mem_cons_of_mem _ (List.mem_append_right _ h)) 5 (by decide) (List.mem_of_getElem? (i := 17) rfl) rfl rfl dX1_copyFrom_153 (fun H locs w => ?_)
  refine q_aload_n C hl dX1_copyFrom_156 rfl 0 rfl ?_
  refine q_aload_n C hl dX1_copyFrom_157 rfl 1 rfl ?_
  refine q_getS C (vP_r w.1) (fun w h => List.mem_cons_of_mem _ (List.mem_append_right _ h)) 13 (by decide) (List.mem_of_getElem? (i := 18) rfl) rfl dX1_copyFrom_158 ?_
  refine q_putS2 C w (fun w h => List.mem_cons_of_mem _ (List.mem_append_right _ h)) 6 (by decide) (List.mem_of_getElem? (i := 18) rfl) rfl rfl dX1_copyFrom_161 (fun H locs w => ?_)
  refine q_aload_n C hl dX1_copyFrom_164 rfl 0 rfl ?_
  refine q_aload_n C hl dX1_copyFrom_165 rfl 1 rfl ?_
  refine q_getS C (vP_r w.1) (fun w h => List.mem_cons_of_mem _ (List.mem_append_right _ h)) 14 (by decide) (List.mem_of_getElem? (i := 19) rfl) rfl dX1_copyFrom_166 ?_
  refine q_putS2 C w (fun w h => List.mem_cons_of_mem _ (List.mem_append_right _ h)) 7 (by decide) (List.mem_of_getElem? (i := 19) rfl) rfl rfl dX1_copyFrom_169 (fun H locs w => ?_)
  refine q_aload_n C hl dX1_copyFrom_172 rfl 0 rfl ?_
  refine q_aload_n C hl dX1_copyFrom_173 rfl 1 rfl ?_
  refine q_getS C (vP_r w.1) (fun w h => List.mem_cons_of_mem _ (List.mem_append_right _ h)) 15 (by decide) (List.mem_of_getElem? (i := 20) rfl) rfl dX1_copyFrom_174 ?_
  refine q_putS2 C w (fun w h => List.mem_cons_of_mem _ (List.mem_append_right _ h)) 8 (by decide) (List.mem_of_getElem? (i := 20) rfl) rfl rfl dX1_copyFrom_177 (fun H locs w => ?_)
  refine q_aload_n C hl dX1_copyFrom_180 rfl 0 rfl ?_
  refine q_aload_n C hl dX1_copyFrom_181 rfl 1 rfl ?_
  refine q_getS C (vP_r w.1) (fun w h => List.mem_cons_of_mem _ (List.mem_append_right _ h)) 16 (by decide) (List.mem_of_getElem? (i := 21) rfl) rfl dX1_copyFrom_182 ?_
  refine q_putS2 C w (fun w h => List.mem_cons_of_mem _ (List.mem_append_right _ h)) 9 (by decide) (List.mem_of_getElem? (i := 21) rfl) rfl rfl dX1_copyFrom_185 (fun H locs w => ?_)
  have hu : ∀ (f : Int → Int) (i k : Int), (k ≠ i → f k = σ2 k) → up f i (σ2 i) k = σ2 k := fun f i k hf => if hh : k = i then (by rw [hh, up_s]) else (by rw [up_n f _ hh]; exact hf hh)
  have w : Wd D A s (cSt cI h ad (up (up (up (up (up (up (up (up (up (up (cps (cpf σ σ2 6) σ2) 0 (σ2 0)) 1 (σ2 1)) 2 (σ2 2)) 3 (σ2 3)) 4 (σ2 4)) 5 (σ2 5)) 6 (σ2 6)) 7 (σ2 7)) 8 (σ2 8)) 9 (σ2 9)) ++ cSt cI h2 ad2 σ2) H locs := w
  have w : Wd D A s (cSt cI h ad σ2 ++ cSt cI h2 ad2 σ2) H locs := wd_scong (fun k k0 k1 => (hu _ _ _ (fun h9 => (hu _ _ _ (fun h8 => (hu _ _ _ (fun h7 => (hu _ _ _ (fun h6 => (hu _ _ _ (fun h5 => (hu _ _ _ (fun h4 => (hu _ _ _ (fun h3 => (hu _ _ _ (fun h2 => (hu _ _ _ (fun h1 => (hu _ _ _ (fun h0 => (by unfold cps cpf; by_cases cc : 10 ≤ k ∧ k < 13; (rw [if_pos cc]); (rw [if_neg cc, if_pos (by omega)]))))))))))))))))))))))) w
  exact q_vret C w dX1_copyFrom_188 rfl

def rX1_isPlace : Room := { frames := 0, cells := 0, slots := 0, locals := 0 }
theorem fX1_isPlace : Fc yX1_isPlace wsX1_isPlace rX1_isPlace cX1_isPlace 2 (some .boolean) 1 := ⟨⟨_, rfl⟩, rfl, rfl, by decide +kernel, by decide +kernel, by decide +kernel⟩
set_option maxHeartbeats 4000000 in
set_option maxRecDepth 10000 in
theorem kX1_isPlace (l : Launch) (D : va_G) (cI cC cS : ClassId) (h : Nat) (ad : Nat → Nat) (σ : Int → Int) (p : Int) (b1 : Bd p) (b2 : 0 ≤ σ 0 ∧ σ 0 ≤ 16) : Ki l yX1_isPlace wsX1_isPlace rX1_isPlace D (tz cI cC cS) [.ref h, .int (jj p)] (cSt cI h ad σ) (bI (isp σ p)) (cSt cI h ad σ) := by
  refine q_entry (cc := cX1_isPlace) (nL := 2) (ret := (some .boolean)) (by decide) ⟨_, rfl⟩ (Nat.le_of_ble_eq_true rfl) ?_
  intro A pr en s m args below meth c C hin w ls hl
  have w := w
  have hl : lv_has ls 2 [(0, .ref h), (1, .int (jj p))] := hl
  refine q_iload_n C hl dX1_isPlace_0 rfl 1 rfl ?_
  refine q_if_lt (tgt := 16) C dX1_isPlace_1 (by decide) b1 (fun c1 => ?_) (fun c1 => ?_)
  · have c1 := c1
    refine q_iconst C dX1_isPlace_16 ?_
    exact q_zret C w dX1_isPlace_17 (by first | exact (bI_t (by omega)).symm | exact (bI_f (by omega)).symm) rfl
  · have c1 := c1
    refine q_iload_n C hl dX1_isPlace_4 rfl 1 rfl ?_
    refine q_aload_n C hl dX1_isPlace_5 rfl 0 rfl ?_
    refine q_getS C w.1 (fun w h => List.mem_cons_of_mem _ (List.mem_append_right _ h)) 7 (by decide) (List.mem_of_getElem? (i := 1) rfl) rfl dX1_isPlace_6 ?_
    refine q_icmp_ge (tgt := 16) C dX1_isPlace_9 (by decide) b1 ⟨by omega, by omega⟩ (fun c2 => ?_) (fun c2 => ?_)
    · have c2 := c2
      refine q_iconst C dX1_isPlace_16 ?_
      exact q_zret C w dX1_isPlace_17 (by first | exact (bI_t (by omega)).symm | exact (bI_f (by omega)).symm) rfl
    · have c2 := c2
      refine q_iconst C dX1_isPlace_12 ?_
      refine q_goto (tgt := 17) C dX1_isPlace_13 (by decide) ?_
      exact q_zret C w dX1_isPlace_17 (by first | exact (bI_t (by omega)).symm | exact (bI_f (by omega)).symm) rfl

def rX1_hasNeighbour : Room := { frames := 0, cells := 0, slots := 0, locals := 0 }
theorem fX1_hasNeighbour : Fc yX1_hasNeighbour wsX1_hasNeighbour rX1_hasNeighbour cX1_hasNeighbour 2 (some .boolean) 1 := ⟨⟨_, rfl⟩, rfl, rfl, by decide +kernel, by decide +kernel, by decide +kernel⟩
set_option maxHeartbeats 4000000 in
set_option maxRecDepth 10000 in
theorem kX1_hasNeighbour (l : Launch) (D : va_G) (cI cC cS : ClassId) (h : Nat) (ad : Nat → Nat) (σ : Int → Int) (p : Int) (b1 : Bd p) (b2 : 0 ≤ σ 0 ∧ σ 0 ≤ 16) : Ki l yX1_hasNeighbour wsX1_hasNeighbour rX1_hasNeighbour D (tz cI cC cS) [.ref h, .int (jj p)] (cSt cI h ad σ) (bI (pair σ p)) (cSt cI h ad σ) := by
  refine q_entry (cc := cX1_hasNeighbour) (nL := 2) (ret := (some .boolean)) (by decide) ⟨_, rfl⟩ (Nat.le_of_ble_eq_true rfl) ?_
  intro A pr en s m args below meth c C hin w ls hl
  have w := w
  have hl : lv_has ls 2 [(0, .ref h), (1, .int (jj p))] := hl
  refine q_iload_n C hl dX1_hasNeighbour_0 rfl 1 rfl ?_
  refine q_if_lt (tgt := 18) C dX1_hasNeighbour_1 (by decide) b1 (fun c1 => ?_) (fun c1 => ?_)
  · have c1 := c1
    refine q_iconst C dX1_hasNeighbour_18 ?_
    exact q_zret C w dX1_hasNeighbour_19 (by first | exact (bI_t (by omega)).symm | exact (bI_f (by omega)).symm) rfl
  · have c1 := c1
    refine q_iload_n C hl dX1_hasNeighbour_4 rfl 1 rfl ?_
    refine q_aload_n C hl dX1_hasNeighbour_5 rfl 0 rfl ?_
    refine q_getS C w.1 (fun w h => List.mem_cons_of_mem _ (List.mem_append_right _ h)) 7 (by decide) (List.mem_of_getElem? (i := 1) rfl) rfl dX1_hasNeighbour_6 ?_
    refine q_iconst C dX1_hasNeighbour_9 ?_
    refine q_isub C dX1_hasNeighbour_10 ?_
    refine q_icmp_ge (tgt := 18) C dX1_hasNeighbour_11 (by decide) b1 ⟨by omega, by omega⟩ (fun c2 => ?_) (fun c2 => ?_)
    · have c2 := c2
      refine q_iconst C dX1_hasNeighbour_18 ?_
      exact q_zret C w dX1_hasNeighbour_19 (by first | exact (bI_t (by omega)).symm | exact (bI_f (by omega)).symm) rfl
    · have c2 := c2
      refine q_iconst C dX1_hasNeighbour_14 ?_
      refine q_goto (tgt := 19) C dX1_hasNeighbour_15 (by decide) ?_
      exact q_zret C w dX1_hasNeighbour_19 (by first | exact (bI_t (by omega)).symm | exact (bI_f (by omega)).symm) rfl

def rX1_leastReached : Room := { frames := 1, cells := 0, slots := 0, locals := 21 }
theorem fX1_leastReached : Fc yX1_leastReached wsX1_leastReached rX1_leastReached cX1_leastReached 2 (some .int) 1 := ⟨⟨_, rfl⟩, rfl, rfl, by decide +kernel, by decide +kernel, by decide +kernel⟩
set_option maxHeartbeats 4000000 in
set_option maxRecDepth 10000 in
theorem kX1_leastReached (l : Launch) (D : va_G) (cI cC cS : ClassId) (h : Nat) (ad : Nat → Nat) (σ : Int → Int) (p : Int) (b1 : 0 ≤ p ∧ p < 16) (b2 : 0 ≤ σ (13 + 6 * p + 4) ∧ σ (13 + 6 * p + 4) ≤ 5) : Ki l yX1_leastReached wsX1_leastReached rX1_leastReached D (tz cI cC cS) [.ref h, .int (jj p)] (cSt cI h ad σ) (lst σ p) (cSt cI h ad σ) := by
  refine q_entry (cc := cX1_leastReached) (nL := 2) (ret := (some .int)) (by decide) ⟨_, rfl⟩ (Nat.le_of_ble_eq_true rfl) ?_
  intro A pr en s m args below meth c C hin w ls hl
  have w := w
  have hl : lv_has ls 2 [(0, .ref h), (1, .int (jj p))] := hl
  refine q_iconst C dX1_leastReached_0 ?_
  refine q_iload_n C hl dX1_leastReached_1 rfl 1 rfl ?_
  refine q_aload_n C hl dX1_leastReached_2 rfl 0 rfl ?_
  refine q_getS C w.1 (fun w h => List.mem_cons_of_mem _ (List.mem_append_right _ h)) 4 (by decide) (List.mem_of_getElem? (i := 1) rfl) rfl dX1_leastReached_3 ?_
  refine q_iload_n C hl dX1_leastReached_6 rfl 1 rfl ?_
  refine q_Sld C w.1 5 4 rfl ⟨by omega, by omega⟩ dX1_leastReached_7 ?_
  refine q_iconst C dX1_leastReached_8 ?_
  refine q_idiv C dX1_leastReached_9 ⟨by omega, by omega⟩ ⟨by omega, by omega⟩ ?_
  refine q_isub C dX1_leastReached_10 ?_
  refine q_mmax (rest := []) C hl (List.mem_of_getElem? (i := 2) rfl) (List.mem_of_getElem? (i := 3) rfl) (List.mem_of_getElem? (i := 4) rfl) (List.mem_of_getElem? (i := 5) rfl) ⟨by omega, by omega⟩ ⟨by omega, by omega⟩ (Nat.le_of_ble_eq_true rfl) (Nat.le_of_ble_eq_true rfl) (Nat.le_refl 0) (Nat.le_refl 0) dX1_leastReached_11 ?_
  exact q_iret C w dX1_leastReached_14 (by unfold lst; omega) rfl

def rX1_greatestReached : Room := { frames := 1, cells := 0, slots := 0, locals := 21 }
theorem fX1_greatestReached : Fc yX1_greatestReached wsX1_greatestReached rX1_greatestReached cX1_greatestReached 2 (some .int) 1 := ⟨⟨_, rfl⟩, rfl, rfl, by decide +kernel, by decide +kernel, by decide +kernel⟩
set_option maxHeartbeats 4000000 in
set_option maxRecDepth 10000 in
theorem kX1_greatestReached (l : Launch) (D : va_G) (cI cC cS : ClassId) (h : Nat) (ad : Nat → Nat) (σ : Int → Int) (p : Int) (b1 : 0 ≤ p ∧ p < 16) (b2 : 1 ≤ σ (13 + 6 * p + 4) ∧ σ (13 + 6 * p + 4) ≤ 5) (b3 : 0 ≤ σ 0 ∧ σ 0 ≤ 16) : Ki l yX1_greatestReached wsX1_greatestReached rX1_greatestReached D (tz cI cC cS) [.ref h, .int (jj p)] (cSt cI h ad σ) (grt σ p) (cSt cI h ad σ) := by
  refine q_entry (cc := cX1_greatestReached) (nL := 2) (ret := (some .int)) (by decide) ⟨_, rfl⟩ (Nat.le_of_ble_eq_true rfl) ?_
  intro A pr en s m args below meth c C hin w ls hl
  have w := w
  have hl : lv_has ls 2 [(0, .ref h), (1, .int (jj p))] := hl
  refine q_aload_n C hl dX1_greatestReached_0 rfl 0 rfl ?_
  refine q_getS C w.1 (fun w h => List.mem_cons_of_mem _ (List.mem_append_right _ h)) 7 (by decide) (List.mem_of_getElem? (i := 1) rfl) rfl dX1_greatestReached_1 ?_
  refine q_iconst C dX1_greatestReached_4 ?_
  refine q_isub C dX1_greatestReached_5 ?_
  refine q_iload_n C hl dX1_greatestReached_6 rfl 1 rfl ?_
  refine q_aload_n C hl dX1_greatestReached_7 rfl 0 rfl ?_
  refine q_getS C w.1 (fun w h => List.mem_cons_of_mem _ (List.mem_append_right _ h)) 4 (by decide) (List.mem_of_getElem? (i := 2) rfl) rfl dX1_greatestReached_8 ?_
  refine q_iload_n C hl dX1_greatestReached_11 rfl 1 rfl ?_
  refine q_Sld C w.1 5 4 rfl ⟨by omega, by omega⟩ dX1_greatestReached_12 ?_
  refine q_iconst C dX1_greatestReached_13 ?_
  refine q_isub C dX1_greatestReached_14 ?_
  refine q_iconst C dX1_greatestReached_15 ?_
  refine q_idiv C dX1_greatestReached_16 ⟨by omega, by omega⟩ ⟨by omega, by omega⟩ ?_
  refine q_iadd C dX1_greatestReached_17 ?_
  refine q_mmin (rest := []) C hl (List.mem_of_getElem? (i := 3) rfl) (List.mem_of_getElem? (i := 4) rfl) (List.mem_of_getElem? (i := 5) rfl) (List.mem_of_getElem? (i := 6) rfl) ⟨by omega, by omega⟩ ⟨by omega, by omega⟩ (Nat.le_of_ble_eq_true rfl) (Nat.le_of_ble_eq_true rfl) (Nat.le_refl 0) (Nat.le_refl 0) dX1_greatestReached_18 ?_
  exact q_iret C w dX1_greatestReached_21 (by unfold grt; omega) rfl

def rX1_umbrellasOver : Room := { frames := 2, cells := 0, slots := 0, locals := 42 }
theorem fX1_umbrellasOver : Fc yX1_umbrellasOver wsX1_umbrellasOver rX1_umbrellasOver cX1_umbrellasOver 4 (some .int) 1 := ⟨⟨_, rfl⟩, rfl, rfl, by decide +kernel, by decide +kernel, by decide +kernel⟩
set_option maxHeartbeats 4000000 in
set_option maxRecDepth 10000 in
theorem kX1_umbrellasOver (l : Launch) (D : va_G) (cI cC cS : ClassId) (h : Nat) (ad : Nat → Nat) (σ : Int → Int) (p : Int) (bW : Wi σ) (b2 : -1 ≤ p ∧ p ≤ 16) : Ki l yX1_umbrellasOver wsX1_umbrellasOver rX1_umbrellasOver D (tz cI cC cS) [.ref h, .int (jj p)] (cSt cI h ad σ) (rch σ p (σ 0)) (cSt cI h ad σ) := by
  have hn := bW.1
  have hn2 := bW.2.1
  refine q_entry (cc := cX1_umbrellasOver) (nL := 4) (ret := (some .int)) (by decide) ⟨_, rfl⟩ (Nat.le_of_ble_eq_true rfl) ?_
  intro A pr en s m args below meth c C hin w ls hl
  have w := w
  have hl : lv_has ls 4 [(0, .ref h), (1, .int (jj p))] := hl
  refine q_iconst C dX1_umbrellasOver_0 ?_
  refine q_istore_n (lv' := [(2, .int (jj 0)), (0, .ref h), (1, .int (jj p))]) C hl dX1_umbrellasOver_1 rfl (by decide) rfl (fun ls hl => ?_)
  refine q_iconst C dX1_umbrellasOver_2 ?_
  refine q_istore_n (lv' := [(3, .int (jj 0)), (2, .int (jj 0)), (0, .ref h), (1, .int (jj p))]) C hl dX1_umbrellasOver_3 rfl (by decide) rfl (fun ls hl => ?_)
  have loop4 : ∀ (n4 : Nat) (i : Int) (a : Int), (0 ≤ i) → (i ≤ σ 0) → (a = rch σ p i ∧ 0 ≤ a ∧ a ≤ i) → (σ 0 - i).toNat < n4 → ∀ (H : Heap) (locs : List Loc), Wd D A s (cSt cI h ad σ) H locs → ∀ ls : Array Slot, lv_has ls 4 [(0, .ref h), (1, .int (jj p)), (2, .int (jj a)), (3, .int (jj i))] → W pr l en rX1_umbrellasOver s m args below meth c H locs 0 0 (MQ below (Qi D (tz cI cC cS) (rch σ p (σ 0)) (cSt cI h ad σ) A) args s 0 0 A) (F0 m 4 ls []) := by
    intro n4
    induction n4 with
    | zero => intro i a hi0 hi1 ha hm; exact absurd hm (Nat.not_lt_zero _)
    | succ n4 ih4 =>
      intro i a hi0 hi1 ha hm4 H locs w ls hl
      refine q_iload_n C hl dX1_umbrellasOver_4 rfl 3 rfl ?_
      refine q_aload_n C hl dX1_umbrellasOver_5 rfl 0 rfl ?_
      refine q_getS C w.1 (fun w h => List.mem_cons_of_mem _ (List.mem_append_right _ h)) 7 (by decide) (List.mem_of_getElem? (i := 1) rfl) rfl dX1_umbrellasOver_6 ?_
      refine q_icmp_ge (tgt := 47) C dX1_umbrellasOver_9 (by decide) ⟨by omega, by omega⟩ ⟨by omega, by omega⟩ (fun c1 => ?_) (fun c1 => ?_)
      · have c1 := c1
        refine q_iload_n C hl dX1_umbrellasOver_47 rfl 2 rfl ?_
        exact q_iret C w dX1_umbrellasOver_48 (by rw [ha.1, show i = σ 0 by omega]) rfl
      · have c1 := c1
        have hq := bW.2.2 i hi0 (by omega)
        refine q_aload_n C hl dX1_umbrellasOver_12 rfl 0 rfl ?_
        refine q_getS C w.1 (fun w h => List.mem_cons_of_mem _ (List.mem_append_right _ h)) 4 (by decide) (List.mem_of_getElem? (i := 2) rfl) rfl dX1_umbrellasOver_13 ?_
        refine q_iload_n C hl dX1_umbrellasOver_16 rfl 3 rfl ?_
        refine q_Sld C w.1 5 4 rfl ⟨by omega, by omega⟩ dX1_umbrellasOver_17 ?_
        refine q_if_le (tgt := 41) C dX1_umbrellasOver_18 (by decide) ⟨by omega, by omega⟩ (fun c2 => ?_) (fun c2 => ?_)
        · have c2 := c2
          refine q_iinc (lv' := [(3, .int (jj (i + 1))), (0, .ref h), (1, .int (jj p)), (2, .int (jj a))]) C hl dX1_umbrellasOver_41 3 rfl (by decide) rfl (fun ls hl => ?_)
          refine q_goto (tgt := 4) C dX1_umbrellasOver_44 (by decide) ?_
          exact ih4 (i + 1) a (by omega) (by omega) ⟨by rw [rch_s σ p hi0, ← ha.1]; unfold bI; split <;> omega, by omega, by omega⟩ (by omega) _ _ w ls (lv_sub hl [1, 2, 3, 0] rfl)
        · have c2 := c2
          refine q_iload_n C hl dX1_umbrellasOver_21 rfl 1 rfl ?_
          have hl1 : 0 ≤ lst σ i ∧ lst σ i ≤ 16 := by unfold lst; omega
          have hg1 : -1 ≤ grt σ i ∧ grt σ i ≤ 18 := by unfold grt; omega
          refine q_aload_n C hl dX1_umbrellasOver_22 rfl 0 rfl ?_
          refine q_iload_n C hl dX1_umbrellasOver_23 rfl 3 rfl ?_
          refine q_runi C w fr_all (q_V (As := [.int (jj i)]) (rest := [.int (jj p)]) C w fr_all fX1_leastReached gX1_umbrellasOver_X1_leastReached rfl ⟨Nat.le_of_ble_eq_true rfl, Nat.le_of_ble_eq_true rfl⟩ (kX1_leastReached l D cI cC cS h ad σ i (by omega) (by omega) _) (q0 := 0) rfl rfl rfl rfl hl (Nat.le_of_ble_eq_true rfl) dX1_umbrellasOver_24 ⟨Nat.le_refl 0, Nat.le_refl 0⟩) (fun H locs w => ?_)
          refine q_aload_n C hl dX1_umbrellasOver_27 rfl 0 rfl ?_
          refine q_iload_n C hl dX1_umbrellasOver_28 rfl 3 rfl ?_
          refine q_runi C w fr_all (q_V (As := [.int (jj i)]) (rest := [.int (jj (lst σ i)), .int (jj p)]) C w fr_all fX1_greatestReached gX1_umbrellasOver_X1_greatestReached rfl ⟨Nat.le_of_ble_eq_true rfl, Nat.le_of_ble_eq_true rfl⟩ (kX1_greatestReached l D cI cC cS h ad σ i (by omega) (by omega) (by omega) _) (q0 := 0) rfl rfl rfl rfl hl (Nat.le_of_ble_eq_true rfl) dX1_umbrellasOver_29 ⟨Nat.le_refl 0, Nat.le_refl 0⟩) (fun H locs w => ?_)
          refine q_runi C w fr_nil (q_SN (As := [.int (jj p), .int (jj (lst σ i)), .int (jj (grt σ i))]) (rest := []) C w fr_nil fX3_isWithin gX1_umbrellasOver_X3_isWithin_n70 C.N.2.2.2.1 (List.mem_of_getElem? (i := 20) rfl) (List.mem_of_getElem? (i := 19) rfl) ⟨Nat.le_of_ble_eq_true rfl, Nat.le_of_ble_eq_true rfl⟩ (kX3_isWithin l D cI cC cS p (lst σ i) (grt σ i) ⟨by omega, by omega⟩ ⟨by omega, by omega⟩ ⟨by omega, by omega⟩ _) rfl rfl hl (Nat.le_of_ble_eq_true rfl) dX1_umbrellasOver_32 ⟨Nat.le_refl 0, Nat.le_refl 0⟩) (fun H locs w => ?_)
          refine q_ifz_eq (tgt := 41) C dX1_umbrellasOver_35 (by decide) (fun c3 => ?_) (fun c3 => ?_)
          · have c3 := c3
            refine q_iinc (lv' := [(3, .int (jj (i + 1))), (0, .ref h), (1, .int (jj p)), (2, .int (jj a))]) C hl dX1_umbrellasOver_41 3 rfl (by decide) rfl (fun ls hl => ?_)
            refine q_goto (tgt := 4) C dX1_umbrellasOver_44 (by decide) ?_
            exact ih4 (i + 1) a (by omega) (by omega) ⟨by rw [rch_s σ p hi0, ← ha.1]; unfold bI; split <;> omega, by omega, by omega⟩ (by omega) _ _ w ls (lv_sub hl [1, 2, 3, 0] rfl)
          · have c3 := c3
            refine q_iinc (lv' := [(2, .int (jj (a + 1))), (0, .ref h), (1, .int (jj p)), (3, .int (jj i))]) C hl dX1_umbrellasOver_38 2 rfl (by decide) rfl (fun ls hl => ?_)
            refine q_iinc (lv' := [(3, .int (jj (i + 1))), (2, .int (jj (a + 1))), (0, .ref h), (1, .int (jj p))]) C hl dX1_umbrellasOver_41 3 rfl (by decide) rfl (fun ls hl => ?_)
            refine q_goto (tgt := 4) C dX1_umbrellasOver_44 (by decide) ?_
            exact ih4 (i + 1) (a + 1) (by omega) (by omega) ⟨by rw [rch_s σ p hi0, ← ha.1]; unfold bI; split <;> omega, by omega, by omega⟩ (by omega) _ _ w ls (lv_sub hl [2, 3, 1, 0] rfl)
  exact loop4 _ 0 0 (by omega) (by omega) ⟨rfl, by omega, by omega⟩ (Nat.lt_succ_self _) _ _ w ls (lv_sub hl [2, 3, 1, 0] rfl)

def rX1_umbrellasRunningOnto : Room := { frames := 2, cells := 0, slots := 0, locals := 42 }
theorem fX1_umbrellasRunningOnto : Fc yX1_umbrellasRunningOnto wsX1_umbrellasRunningOnto rX1_umbrellasRunningOnto cX1_umbrellasRunningOnto 4 (some .int) 1 := ⟨⟨_, rfl⟩, rfl, rfl, by decide +kernel, by decide +kernel, by decide +kernel⟩
set_option maxHeartbeats 4000000 in
set_option maxRecDepth 10000 in
theorem kX1_umbrellasRunningOnto (l : Launch) (D : va_G) (cI cC cS : ClassId) (h : Nat) (ad : Nat → Nat) (σ : Int → Int) (p : Int) (bW : Wi σ) (b2 : 0 ≤ p ∧ p ≤ 15) : Ki l yX1_umbrellasRunningOnto wsX1_umbrellasRunningOnto rX1_umbrellasRunningOnto D (tz cI cC cS) [.ref h, .int (jj p)] (cSt cI h ad σ) (rnf σ p (σ 0)) (cSt cI h ad σ) := by
  have hn := bW.1
  have hn2 := bW.2.1
  refine q_entry (cc := cX1_umbrellasRunningOnto) (nL := 4) (ret := (some .int)) (by decide) ⟨_, rfl⟩ (Nat.le_of_ble_eq_true rfl) ?_
  intro A pr en s m args below meth c C hin w ls hl
  have w := w
  have hl : lv_has ls 4 [(0, .ref h), (1, .int (jj p))] := hl
  refine q_iconst C dX1_umbrellasRunningOnto_0 ?_
  refine q_istore_n (lv' := [(2, .int (jj 0)), (0, .ref h), (1, .int (jj p))]) C hl dX1_umbrellasRunningOnto_1 rfl (by decide) rfl (fun ls hl => ?_)
  refine q_iconst C dX1_umbrellasRunningOnto_2 ?_
  refine q_istore_n (lv' := [(3, .int (jj 0)), (2, .int (jj 0)), (0, .ref h), (1, .int (jj p))]) C hl dX1_umbrellasRunningOnto_3 rfl (by decide) rfl (fun ls hl => ?_)
  have loop4 : ∀ (n4 : Nat) (i : Int) (a : Int), (0 ≤ i) → (i ≤ σ 0) → (a = rnf σ p i ∧ 0 ≤ a ∧ a ≤ i) → (σ 0 - i).toNat < n4 → ∀ (H : Heap) (locs : List Loc), Wd D A s (cSt cI h ad σ) H locs → ∀ ls : Array Slot, lv_has ls 4 [(0, .ref h), (1, .int (jj p)), (2, .int (jj a)), (3, .int (jj i))] → W pr l en rX1_umbrellasRunningOnto s m args below meth c H locs 0 0 (MQ below (Qi D (tz cI cC cS) (rnf σ p (σ 0)) (cSt cI h ad σ) A) args s 0 0 A) (F0 m 4 ls []) := by
    intro n4
    induction n4 with
    | zero => intro i a hi0 hi1 ha hm; exact absurd hm (Nat.not_lt_zero _)
    | succ n4 ih4 =>
      intro i a hi0 hi1 ha hm4 H locs w ls hl
      refine q_iload_n C hl dX1_umbrellasRunningOnto_4 rfl 3 rfl ?_
      refine q_aload_n C hl dX1_umbrellasRunningOnto_5 rfl 0 rfl ?_
      refine q_getS C w.1 (fun w h => List.mem_cons_of_mem _ (List.mem_append_right _ h)) 7 (by decide) (List.mem_of_getElem? (i := 1) rfl) rfl dX1_umbrellasRunningOnto_6 ?_
      refine q_icmp_ge (tgt := 52) C dX1_umbrellasRunningOnto_9 (by decide) ⟨by omega, by omega⟩ ⟨by omega, by omega⟩ (fun c1 => ?_) (fun c1 => ?_)
      · have c1 := c1
        refine q_iload_n C hl dX1_umbrellasRunningOnto_52 rfl 2 rfl ?_
        exact q_iret C w dX1_umbrellasRunningOnto_53 (by rw [ha.1, show i = σ 0 by omega]) rfl
      · have c1 := c1
        have hq := bW.2.2 i hi0 (by omega)
        refine q_aload_n C hl dX1_umbrellasRunningOnto_12 rfl 0 rfl ?_
        refine q_getS C w.1 (fun w h => List.mem_cons_of_mem _ (List.mem_append_right _ h)) 4 (by decide) (List.mem_of_getElem? (i := 2) rfl) rfl dX1_umbrellasRunningOnto_13 ?_
        refine q_iload_n C hl dX1_umbrellasRunningOnto_16 rfl 3 rfl ?_
        refine q_Sld C w.1 5 4 rfl ⟨by omega, by omega⟩ dX1_umbrellasRunningOnto_17 ?_
        refine q_if_le (tgt := 46) C dX1_umbrellasRunningOnto_18 (by decide) ⟨by omega, by omega⟩ (fun c2 => ?_) (fun c2 => ?_)
        · have c2 := c2
          refine q_iinc (lv' := [(3, .int (jj (i + 1))), (0, .ref h), (1, .int (jj p)), (2, .int (jj a))]) C hl dX1_umbrellasRunningOnto_46 3 rfl (by decide) rfl (fun ls hl => ?_)
          refine q_goto (tgt := 4) C dX1_umbrellasRunningOnto_49 (by decide) ?_
          exact ih4 (i + 1) a (by omega) (by omega) ⟨by rw [rnf_s σ p hi0, ← ha.1]; unfold bI; split <;> omega, by omega, by omega⟩ (by omega) _ _ w ls (lv_sub hl [1, 2, 3, 0] rfl)
        · have c2 := c2
          refine q_iload_n C hl dX1_umbrellasRunningOnto_21 rfl 1 rfl ?_
          have hl1 : 0 ≤ lst σ i ∧ lst σ i ≤ 16 := by unfold lst; omega
          have hg1 : -1 ≤ grt σ i ∧ grt σ i ≤ 18 := by unfold grt; omega
          refine q_aload_n C hl dX1_umbrellasRunningOnto_22 rfl 0 rfl ?_
          refine q_iload_n C hl dX1_umbrellasRunningOnto_23 rfl 3 rfl ?_
          refine q_runi C w fr_all (q_V (As := [.int (jj i)]) (rest := [.int (jj p)]) C w fr_all fX1_leastReached gX1_umbrellasRunningOnto_X1_leastReached rfl ⟨Nat.le_of_ble_eq_true rfl, Nat.le_of_ble_eq_true rfl⟩ (kX1_leastReached l D cI cC cS h ad σ i (by omega) (by omega) _) (q0 := 0) rfl rfl rfl rfl hl (Nat.le_of_ble_eq_true rfl) dX1_umbrellasRunningOnto_24 ⟨Nat.le_refl 0, Nat.le_refl 0⟩) (fun H locs w => ?_)
          refine q_iconst C dX1_umbrellasRunningOnto_27 ?_
          refine q_isub C dX1_umbrellasRunningOnto_28 ?_
          refine q_icmp_eq (tgt := 43) C dX1_umbrellasRunningOnto_29 (by decide) ⟨by omega, by omega⟩ ⟨by omega, by omega⟩ (fun c3 => ?_) (fun c3 => ?_)
          · have c3 := c3
            refine q_iinc (lv' := [(2, .int (jj (a + 1))), (0, .ref h), (1, .int (jj p)), (3, .int (jj i))]) C hl dX1_umbrellasRunningOnto_43 2 rfl (by decide) rfl (fun ls hl => ?_)
            refine q_iinc (lv' := [(3, .int (jj (i + 1))), (2, .int (jj (a + 1))), (0, .ref h), (1, .int (jj p))]) C hl dX1_umbrellasRunningOnto_46 3 rfl (by decide) rfl (fun ls hl => ?_)
            refine q_goto (tgt := 4) C dX1_umbrellasRunningOnto_49 (by decide) ?_
            exact ih4 (i + 1) (a + 1) (by omega) (by omega) ⟨by rw [rnf_s σ p hi0, ← ha.1]; unfold bI; split <;> omega, by omega, by omega⟩ (by omega) _ _ w ls (lv_sub hl [2, 3, 1, 0] rfl)
          · have c3 := c3
            refine q_iload_n C hl dX1_umbrellasRunningOnto_32 rfl 1 rfl ?_
            refine q_aload_n C hl dX1_umbrellasRunningOnto_33 rfl 0 rfl ?_
            refine q_iload_n C hl dX1_umbrellasRunningOnto_34 rfl 3 rfl ?_
            refine q_runi C w fr_all (q_V (As := [.int (jj i)]) (rest := [.int (jj p)]) C w fr_all fX1_greatestReached gX1_umbrellasRunningOnto_X1_greatestReached rfl ⟨Nat.le_of_ble_eq_true rfl, Nat.le_of_ble_eq_true rfl⟩ (kX1_greatestReached l D cI cC cS h ad σ i (by omega) (by omega) (by omega) _) (q0 := 0) rfl rfl rfl rfl hl (Nat.le_of_ble_eq_true rfl) dX1_umbrellasRunningOnto_35 ⟨Nat.le_refl 0, Nat.le_refl 0⟩) (fun H locs w => ?_)
            refine q_iconst C dX1_umbrellasRunningOnto_38 ?_
            refine q_iadd C dX1_umbrellasRunningOnto_39 ?_
            refine q_icmp_ne (tgt := 46) C dX1_umbrellasRunningOnto_40 (by decide) ⟨by omega, by omega⟩ ⟨by omega, by omega⟩ (fun c4 => ?_) (fun c4 => ?_)
            · have c4 := c4
              refine q_iinc (lv' := [(3, .int (jj (i + 1))), (0, .ref h), (1, .int (jj p)), (2, .int (jj a))]) C hl dX1_umbrellasRunningOnto_46 3 rfl (by decide) rfl (fun ls hl => ?_)
              refine q_goto (tgt := 4) C dX1_umbrellasRunningOnto_49 (by decide) ?_
              exact ih4 (i + 1) a (by omega) (by omega) ⟨by rw [rnf_s σ p hi0, ← ha.1]; unfold bI; split <;> omega, by omega, by omega⟩ (by omega) _ _ w ls (lv_sub hl [1, 2, 3, 0] rfl)
            · have c4 := c4
              refine q_iinc (lv' := [(2, .int (jj (a + 1))), (0, .ref h), (1, .int (jj p)), (3, .int (jj i))]) C hl dX1_umbrellasRunningOnto_43 2 rfl (by decide) rfl (fun ls hl => ?_)
              refine q_iinc (lv' := [(3, .int (jj (i + 1))), (2, .int (jj (a + 1))), (0, .ref h), (1, .int (jj p))]) C hl dX1_umbrellasRunningOnto_46 3 rfl (by decide) rfl (fun ls hl => ?_)
              refine q_goto (tgt := 4) C dX1_umbrellasRunningOnto_49 (by decide) ?_
              exact ih4 (i + 1) (a + 1) (by omega) (by omega) ⟨by rw [rnf_s σ p hi0, ← ha.1]; unfold bI; split <;> omega, by omega, by omega⟩ (by omega) _ _ w ls (lv_sub hl [2, 3, 1, 0] rfl)
  exact loop4 _ 0 0 (by omega) (by omega) ⟨rfl, by omega, by omega⟩ (Nat.lt_succ_self _) _ _ w ls (lv_sub hl [2, 3, 1, 0] rfl)

def rX1_placesUnreached : Room := { frames := 3, cells := 0, slots := 0, locals := 65 }
theorem fX1_placesUnreached : Fc yX1_placesUnreached wsX1_placesUnreached rX1_placesUnreached cX1_placesUnreached 3 (some .int) 0 := ⟨⟨_, rfl⟩, rfl, rfl, by decide +kernel, by decide +kernel, by decide +kernel⟩
set_option maxHeartbeats 4000000 in
set_option maxRecDepth 10000 in
theorem kX1_placesUnreached (l : Launch) (D : va_G) (cI cC cS : ClassId) (h : Nat) (ad : Nat → Nat) (σ : Int → Int)  (bW : Wi σ) : Ki l yX1_placesUnreached wsX1_placesUnreached rX1_placesUnreached D (tz cI cC cS) [.ref h] (cSt cI h ad σ) (unf σ (σ 0)) (cSt cI h ad σ) := by
  have hn := bW.1
  have hn2 := bW.2.1
  refine q_entry (cc := cX1_placesUnreached) (nL := 3) (ret := (some .int)) (by decide) ⟨_, rfl⟩ (Nat.le_of_ble_eq_true rfl) ?_
  intro A pr en s m args below meth c C hin w ls hl
  have w := w
  have hl : lv_has ls 3 [(0, .ref h)] := hl
  refine q_iconst C dX1_placesUnreached_0 ?_
  refine q_istore_n (lv' := [(1, .int (jj 0)), (0, .ref h)]) C hl dX1_placesUnreached_1 rfl (by decide) rfl (fun ls hl => ?_)
  refine q_iconst C dX1_placesUnreached_2 ?_
  refine q_istore_n (lv' := [(2, .int (jj 0)), (1, .int (jj 0)), (0, .ref h)]) C hl dX1_placesUnreached_3 rfl (by decide) rfl (fun ls hl => ?_)
  have loop4 : ∀ (n4 : Nat) (i : Int) (a : Int), (0 ≤ i) → (i ≤ σ 0) → (a = unf σ i) → (σ 0 - i).toNat < n4 → ∀ (H : Heap) (locs : List Loc), Wd D A s (cSt cI h ad σ) H locs → ∀ ls : Array Slot, lv_has ls 3 [(0, .ref h), (1, .int (jj a)), (2, .int (jj i))] → W pr l en rX1_placesUnreached s m args below meth c H locs 0 0 (MQ below (Qi D (tz cI cC cS) (unf σ (σ 0)) (cSt cI h ad σ) A) args s 0 0 A) (F0 m 4 ls []) := by
    intro n4
    induction n4 with
    | zero => intro i a hi0 hi1 ha hm; exact absurd hm (Nat.not_lt_zero _)
    | succ n4 ih4 =>
      intro i a hi0 hi1 ha hm4 H locs w ls hl
      refine q_iload_n C hl dX1_placesUnreached_4 rfl 2 rfl ?_
      refine q_aload_n C hl dX1_placesUnreached_5 rfl 0 rfl ?_
      refine q_getS C w.1 (fun w h => List.mem_cons_of_mem _ (List.mem_append_right _ h)) 7 (by decide) (List.mem_of_getElem? (i := 1) rfl) rfl dX1_placesUnreached_6 ?_
      refine q_icmp_ge (tgt := 29) C dX1_placesUnreached_9 (by decide) ⟨by omega, by omega⟩ ⟨by omega, by omega⟩ (fun c1 => ?_) (fun c1 => ?_)
      · have c1 := c1
        refine q_iload_n C hl dX1_placesUnreached_29 rfl 1 rfl ?_
        exact q_iret C w dX1_placesUnreached_30 (by rw [ha, show i = σ 0 by omega]) rfl
      · have c1 := c1
        have hr := rch_b σ i hn
        refine q_aload_n C hl dX1_placesUnreached_12 rfl 0 rfl ?_
        refine q_iload_n C hl dX1_placesUnreached_13 rfl 2 rfl ?_
        refine q_runi C w fr_all (q_V (As := [.int (jj i)]) (rest := []) C w fr_all fX1_umbrellasOver gX1_placesUnreached_X1_umbrellasOver rfl ⟨Nat.le_of_ble_eq_true rfl, Nat.le_of_ble_eq_true rfl⟩ (kX1_umbrellasOver l D cI cC cS h ad σ i bW (by omega) _) (q0 := 0) rfl rfl rfl rfl hl (Nat.le_of_ble_eq_true rfl) dX1_placesUnreached_14 ⟨Nat.le_refl 0, Nat.le_refl 0⟩) (fun H locs w => ?_)
        refine q_if_ne (tgt := 23) C dX1_placesUnreached_17 (by decide) ⟨by omega, by omega⟩ (fun c2 => ?_) (fun c2 => ?_)
        · have c2 := c2
          refine q_iinc (lv' := [(2, .int (jj (i + 1))), (0, .ref h), (1, .int (jj a))]) C hl dX1_placesUnreached_23 2 rfl (by decide) rfl (fun ls hl => ?_)
          refine q_goto (tgt := 4) C dX1_placesUnreached_26 (by decide) ?_
          exact ih4 (i + 1) a (by omega) (by omega) (by rw [unf_s σ hi0, ← ha]; unfold bI; split <;> omega) (by omega) _ _ w ls (lv_sub hl [1, 2, 0] rfl)
        · have c2 := c2
          refine q_iinc (lv' := [(1, .int (jj (a + 1))), (0, .ref h), (2, .int (jj i))]) C hl dX1_placesUnreached_20 1 rfl (by decide) rfl (fun ls hl => ?_)
          refine q_iinc (lv' := [(2, .int (jj (i + 1))), (1, .int (jj (a + 1))), (0, .ref h)]) C hl dX1_placesUnreached_23 2 rfl (by decide) rfl (fun ls hl => ?_)
          refine q_goto (tgt := 4) C dX1_placesUnreached_26 (by decide) ?_
          exact ih4 (i + 1) (a + 1) (by omega) (by omega) (by rw [unf_s σ hi0, ← ha]; unfold bI; split <;> omega) (by omega) _ _ w ls (lv_sub hl [2, 1, 0] rfl)
  exact loop4 _ 0 0 (by omega) (by omega) rfl (Nat.lt_succ_self _) _ _ w ls (lv_sub hl [2, 1, 0] rfl)

def rX1_isCovered : Room := { frames := 2, cells := 0, slots := 0, locals := 42 }
theorem fX1_isCovered : Fc yX1_isCovered wsX1_isCovered rX1_isCovered cX1_isCovered 6 (some .boolean) 2 := ⟨⟨_, rfl⟩, rfl, rfl, by decide +kernel, by decide +kernel, by decide +kernel⟩
set_option maxHeartbeats 4000000 in
set_option maxRecDepth 10000 in
theorem kX1_isCovered (l : Launch) (D : va_G) (cI cC cS : ClassId) (h : Nat) (ad : Nat → Nat) (σ : Int → Int) (p side : Int) (bW : Wi σ) (bp : 0 ≤ p ∧ p ≤ 15) (bs : 0 ≤ side ∧ side ≤ 2) : Ki l yX1_isCovered wsX1_isCovered rX1_isCovered D (tz cI cC cS) [.ref h, .int (jj p), .int (jj side)] (cSt cI h ad σ) (bI (cov σ p side)) (cSt cI h ad σ) := by
  have hn := bW.1
  have hn2 := bW.2.1
  refine q_entry (cc := cX1_isCovered) (nL := 6) (ret := (some .boolean)) (by decide) ⟨_, rfl⟩ (Nat.le_of_ble_eq_true rfl) ?_
  intro A pr en s m args below meth c C hin w ls hl
  have w := w
  have hl : lv_has ls 6 [(0, .ref h), (1, .int (jj p)), (2, .int (jj side))] := hl
  have join12 : ∀ (fi : Int), (fi = if side = 1 then p - 1 else p) →  ∀ (H : Heap) (locs : List Loc), Wd D A s (cSt cI h ad σ) H locs → ∀ ls : Array Slot, lv_has ls 6 [(0, .ref h), (1, .int (jj p)), (2, .int (jj side))] → W pr l en rX1_isCovered s m args below meth c H locs 0 0 (MQ below (Qi D (tz cI cC cS) (bI (cov σ p side)) (cSt cI h ad σ) A) args s 0 0 A) (F0 m 12 ls [.int (jj fi)]) := by
    intro fi hfi H locs w ls hl
    have hfb : p - 1 ≤ fi ∧ fi ≤ p := by rw [hfi]; split <;> omega
    refine q_istore_n (lv' := [(3, .int (jj fi)), (0, .ref h), (1, .int (jj p)), (2, .int (jj side))]) C hl dX1_isCovered_12 rfl (by decide) rfl (fun ls hl => ?_)
    have join25 : ∀ (la : Int), (la = if side = 2 then p + 1 else p) →  ∀ (H : Heap) (locs : List Loc), Wd D A s (cSt cI h ad σ) H locs → ∀ ls : Array Slot, lv_has ls 6 [(0, .ref h), (1, .int (jj p)), (2, .int (jj side)), (3, .int (jj fi))] → W pr l en rX1_isCovered s m args below meth c H locs 0 0 (MQ below (Qi D (tz cI cC cS) (bI (cov σ p side)) (cSt cI h ad σ) A) args s 0 0 A) (F0 m 25 ls [.int (jj la)]) := by
      intro la hla H locs w ls hl
      have hlb : p ≤ la ∧ la ≤ p + 1 := by rw [hla]; split <;> omega
      refine q_istore (lv' := [(4, .int (jj la)), (0, .ref h), (1, .int (jj p)), (2, .int (jj side)), (3, .int (jj fi))]) C hl dX1_isCovered_25 (by decide) rfl (fun ls hl => ?_)
      refine q_iconst C dX1_isCovered_27 ?_
      refine q_istore (lv' := [(5, .int (jj 0)), (4, .int (jj la)), (0, .ref h), (1, .int (jj p)), (2, .int (jj side)), (3, .int (jj fi))]) C hl dX1_isCovered_28 (by decide) rfl (fun ls hl => ?_)
      have loop30 : ∀ (n30 : Nat) (i : Int), (0 ≤ i) → (i ≤ σ 0) → (∀ k : Int, 0 ≤ k → k < i → ¬ cvh σ p side k) → (σ 0 - i).toNat < n30 → ∀ (H : Heap) (locs : List Loc), Wd D A s (cSt cI h ad σ) H locs → ∀ ls : Array Slot, lv_has ls 6 [(0, .ref h), (1, .int (jj p)), (2, .int (jj side)), (3, .int (jj fi)), (4, .int (jj la)), (5, .int (jj i))] → W pr l en rX1_isCovered s m args below meth c H locs 0 0 (MQ below (Qi D (tz cI cC cS) (bI (cov σ p side)) (cSt cI h ad σ) A) args s 0 0 A) (F0 m 30 ls []) := by
        intro n30
        induction n30 with
        | zero => intro i hi0 hi1 hno hm; exact absurd hm (Nat.not_lt_zero _)
        | succ n30 ih30 =>
          intro i hi0 hi1 hno hm30 H locs w ls hl
          refine q_iload C hl dX1_isCovered_30 5 rfl ?_
          refine q_aload_n C hl dX1_isCovered_32 rfl 0 rfl ?_
          refine q_getS C w.1 (fun w h => List.mem_cons_of_mem _ (List.mem_append_right _ h)) 7 (by decide) (List.mem_of_getElem? (i := 1) rfl) rfl dX1_isCovered_33 ?_
          refine q_icmp_ge (tgt := 78) C dX1_isCovered_36 (by decide) ⟨by omega, by omega⟩ ⟨by omega, by omega⟩ (fun c1 => ?_) (fun c1 => ?_)
          · have c1 := c1
            refine q_iconst C dX1_isCovered_78 ?_
            exact q_zret C w dX1_isCovered_79 (bI_f (cov_no bW (fun k k0 k1 => hno k k0 (by omega)))).symm rfl
          · have c1 := c1
            have hq := bW.2.2 i hi0 (by omega)
            refine q_aload_n C hl dX1_isCovered_39 rfl 0 rfl ?_
            refine q_getS C w.1 (fun w h => List.mem_cons_of_mem _ (List.mem_append_right _ h)) 4 (by decide) (List.mem_of_getElem? (i := 2) rfl) rfl dX1_isCovered_40 ?_
            refine q_iload C hl dX1_isCovered_43 5 rfl ?_
            refine q_Sld C w.1 5 4 rfl ⟨by omega, by omega⟩ dX1_isCovered_45 ?_
            refine q_if_le (tgt := 72) C dX1_isCovered_46 (by decide) ⟨by omega, by omega⟩ (fun c2 => ?_) (fun c2 => ?_)
            · have c2 := c2
              refine q_iinc (lv' := [(5, .int (jj (i + 1))), (0, .ref h), (1, .int (jj p)), (2, .int (jj side)), (3, .int (jj fi)), (4, .int (jj la))]) C hl dX1_isCovered_72 5 rfl (by decide) rfl (fun ls hl => ?_)
              refine q_goto (tgt := 30) C dX1_isCovered_75 (by decide) ?_
              exact ih30 (i + 1) (by omega) (by omega) (fun k k0 k1 => if ee : k = i then (by subst ee; rintro ⟨a1, a2, a3⟩; rw [← hla] at a2; rw [← hfi] at a3; omega) else hno k k0 (by omega)) (by omega) _ _ w ls (lv_sub hl [1, 2, 3, 4, 5, 0] rfl)
            · have c2 := c2
              have hl1 : 0 ≤ lst σ i ∧ lst σ i ≤ 16 := by unfold lst; omega
              have hg1 : -1 ≤ grt σ i ∧ grt σ i ≤ 18 := by unfold grt; omega
              refine q_aload_n C hl dX1_isCovered_49 rfl 0 rfl ?_
              refine q_iload C hl dX1_isCovered_50 5 rfl ?_
              refine q_runi C w fr_all (q_V (As := [.int (jj i)]) (rest := []) C w fr_all fX1_leastReached gX1_isCovered_X1_leastReached rfl ⟨Nat.le_of_ble_eq_true rfl, Nat.le_of_ble_eq_true rfl⟩ (kX1_leastReached l D cI cC cS h ad σ i (by omega) (by omega) _) (q0 := 0) rfl rfl rfl rfl hl (Nat.le_of_ble_eq_true rfl) dX1_isCovered_52 ⟨Nat.le_refl 0, Nat.le_refl 0⟩) (fun H locs w => ?_)
              refine q_iload C hl dX1_isCovered_55 4 rfl ?_
              refine q_icmp_gt (tgt := 72) C dX1_isCovered_57 (by decide) ⟨by omega, by omega⟩ ⟨by omega, by omega⟩ (fun c3 => ?_) (fun c3 => ?_)
              · have c3 := c3
                refine q_iinc (lv' := [(5, .int (jj (i + 1))), (0, .ref h), (1, .int (jj p)), (2, .int (jj side)), (3, .int (jj fi)), (4, .int (jj la))]) C hl dX1_isCovered_72 5 rfl (by decide) rfl (fun ls hl => ?_)
                refine q_goto (tgt := 30) C dX1_isCovered_75 (by decide) ?_
                exact ih30 (i + 1) (by omega) (by omega) (fun k k0 k1 => if ee : k = i then (by subst ee; rintro ⟨a1, a2, a3⟩; rw [← hla] at a2; rw [← hfi] at a3; omega) else hno k k0 (by omega)) (by omega) _ _ w ls (lv_sub hl [1, 2, 3, 4, 5, 0] rfl)
              · have c3 := c3
                refine q_aload_n C hl dX1_isCovered_60 rfl 0 rfl ?_
                refine q_iload C hl dX1_isCovered_61 5 rfl ?_
                refine q_runi C w fr_all (q_V (As := [.int (jj i)]) (rest := []) C w fr_all fX1_greatestReached gX1_isCovered_X1_greatestReached rfl ⟨Nat.le_of_ble_eq_true rfl, Nat.le_of_ble_eq_true rfl⟩ (kX1_greatestReached l D cI cC cS h ad σ i (by omega) (by omega) (by omega) _) (q0 := 0) rfl rfl rfl rfl hl (Nat.le_of_ble_eq_true rfl) dX1_isCovered_63 ⟨Nat.le_refl 0, Nat.le_refl 0⟩) (fun H locs w => ?_)
                refine q_iload_n C hl dX1_isCovered_66 rfl 3 rfl ?_
                refine q_icmp_lt (tgt := 72) C dX1_isCovered_67 (by decide) ⟨by omega, by omega⟩ ⟨by omega, by omega⟩ (fun c4 => ?_) (fun c4 => ?_)
                · have c4 := c4
                  refine q_iinc (lv' := [(5, .int (jj (i + 1))), (0, .ref h), (1, .int (jj p)), (2, .int (jj side)), (3, .int (jj fi)), (4, .int (jj la))]) C hl dX1_isCovered_72 5 rfl (by decide) rfl (fun ls hl => ?_)
                  refine q_goto (tgt := 30) C dX1_isCovered_75 (by decide) ?_
                  exact ih30 (i + 1) (by omega) (by omega) (fun k k0 k1 => if ee : k = i then (by subst ee; rintro ⟨a1, a2, a3⟩; rw [← hla] at a2; rw [← hfi] at a3; omega) else hno k k0 (by omega)) (by omega) _ _ w ls (lv_sub hl [1, 2, 3, 4, 5, 0] rfl)
                · have c4 := c4
                  refine q_iconst C dX1_isCovered_70 ?_
                  exact q_zret C w dX1_isCovered_71 (bI_t (cov_y bW hi0 (by omega) ⟨by omega, by rw [← hla]; omega, by rw [← hfi]; omega⟩)).symm rfl
      exact loop30 _ 0 (by omega) (by omega) (fun k k0 k1 => absurd k1 (by omega)) (Nat.lt_succ_self _) _ _ w ls (lv_sub hl [2, 3, 4, 5, 1, 0] rfl)
    refine q_iload_n C hl dX1_isCovered_13 rfl 3 rfl ?_
    refine q_iconst C dX1_isCovered_14 ?_
    refine q_icmp_ne (tgt := 24) C dX1_isCovered_15 (by decide) ⟨by omega, by omega⟩ ⟨by omega, by omega⟩ (fun c5 => ?_) (fun c5 => ?_)
    · have c5 := c5
      refine q_iload_n C hl dX1_isCovered_24 rfl 2 rfl ?_
      exact join25 p (by split <;> omega) _ _ w ls (lv_sub hl [1, 2, 3, 0] rfl)
    · have c5 := c5
      refine q_iload_n C hl dX1_isCovered_18 rfl 2 rfl ?_
      refine q_iconst C dX1_isCovered_19 ?_
      refine q_iadd C dX1_isCovered_20 ?_
      refine q_goto (tgt := 25) C dX1_isCovered_21 (by decide) ?_
      exact join25 (p + 1) (by split <;> omega) _ _ w ls (lv_sub hl [1, 2, 3, 0] rfl)
  refine q_iload_n C hl dX1_isCovered_0 rfl 2 rfl ?_
  refine q_iconst C dX1_isCovered_1 ?_
  refine q_icmp_ne (tgt := 11) C dX1_isCovered_2 (by decide) ⟨by omega, by omega⟩ ⟨by omega, by omega⟩ (fun c6 => ?_) (fun c6 => ?_)
  · have c6 := c6
    refine q_iload_n C hl dX1_isCovered_11 rfl 1 rfl ?_
    exact join12 p (by split <;> omega) _ _ w ls (lv_sub hl [0, 1, 2] rfl)
  · have c6 := c6
    refine q_iload_n C hl dX1_isCovered_5 rfl 1 rfl ?_
    refine q_iconst C dX1_isCovered_6 ?_
    refine q_isub C dX1_isCovered_7 ?_
    refine q_goto (tgt := 12) C dX1_isCovered_8 (by decide) ?_
    exact join12 (p - 1) (by split <;> omega) _ _ w ls (lv_sub hl [0, 1, 2] rfl)

def rX1_wetterBy : Room := { frames := 3, cells := 0, slots := 0, locals := 67 }
theorem fX1_wetterBy : Fc yX1_wetterBy wsX1_wetterBy rX1_wetterBy cX1_wetterBy 5 (some .int) 3 := ⟨⟨_, rfl⟩, rfl, rfl, by decide +kernel, by decide +kernel, by decide +kernel⟩
set_option maxHeartbeats 4000000 in
set_option maxRecDepth 10000 in
theorem kX1_wetterBy (l : Launch) (D : va_G) (cI cC cS : ClassId) (h : Nat) (ad : Nat → Nat) (σ : Int → Int) (p d side : Int) (bW : Wi σ) (bp : 0 ≤ p ∧ p ≤ 15) (bd : 1 ≤ d ∧ d ≤ 99) (bs : 0 ≤ side ∧ side ≤ 2) : Ki l yX1_wetterBy wsX1_wetterBy rX1_wetterBy D (tz cI cC cS) [.ref h, .int (jj p), .int (jj d), .int (jj side)] (cSt cI h ad σ) (wtr σ p d side) (cSt cI h ad σ) := by
  refine q_entry (cc := cX1_wetterBy) (nL := 5) (ret := (some .int)) (by decide) ⟨_, rfl⟩ (Nat.le_of_ble_eq_true rfl) ?_
  intro A pr en s m args below meth c C hin w ls hl
  have w := w
  have hl : lv_has ls 5 [(0, .ref h), (1, .int (jj p)), (2, .int (jj d)), (3, .int (jj side))] := hl
  refine q_aload_n C hl dX1_wetterBy_0 rfl 0 rfl ?_
  refine q_iload_n C hl dX1_wetterBy_1 rfl 1 rfl ?_
  refine q_runi C w fr_all (q_V (As := [.int (jj p)]) (rest := []) C w fr_all fX1_umbrellasRunningOnto gX1_wetterBy_X1_umbrellasRunningOnto rfl ⟨Nat.le_of_ble_eq_true rfl, Nat.le_of_ble_eq_true rfl⟩ (kX1_umbrellasRunningOnto l D cI cC cS h ad σ p bW (by omega) _) (q0 := 0) rfl rfl rfl rfl hl (Nat.le_of_ble_eq_true rfl) dX1_wetterBy_2 ⟨Nat.le_refl 0, Nat.le_refl 0⟩) (fun H locs w => ?_)
  refine q_iload_n C hl dX1_wetterBy_5 rfl 2 rfl ?_
  refine q_iconst C dX1_wetterBy_6 ?_
  refine q_idiv C dX1_wetterBy_7 ⟨by omega, by omega⟩ ⟨by omega, by omega⟩ ?_
  refine q_imul C dX1_wetterBy_8 ?_
  refine q_istore (lv' := [(4, .int (jj ((rnf σ p (σ 0)) * (d / 2)))), (0, .ref h), (1, .int (jj p)), (2, .int (jj d)), (3, .int (jj side))]) C hl dX1_wetterBy_9 (by decide) rfl (fun ls hl => ?_)
  refine q_aload_n C hl dX1_wetterBy_11 rfl 1 rfl ?_
  refine q_iload_n C hl dX1_wetterBy_12 rfl 2 rfl ?_
  refine q_iload_n C hl dX1_wetterBy_13 rfl 4 rfl ?_
  refine q_runi C w fr_all (q_V (As := [.int (jj p), .int (jj side)]) (rest := []) C w fr_all fX1_isCovered gX1_wetterBy_X1_isCovered rfl ⟨Nat.le_of_ble_eq_true rfl, Nat.le_of_ble_eq_true rfl⟩ (kX1_isCovered l D cI cC cS h ad σ p side bW (by omega) (by omega) _) (q0 := 0) rfl rfl rfl rfl hl (Nat.le_of_ble_eq_true rfl) dX1_wetterBy_14 ⟨Nat.le_refl 0, Nat.le_refl 0⟩) (fun H locs w => ?_)
  refine q_ifz_eq (tgt := 25) C dX1_wetterBy_17 (by decide) (fun c1 => ?_) (fun c1 => ?_)
  · have c1 := c1
    refine q_iload C hl dX1_wetterBy_25 0 rfl ?_
    refine q_iload_n C hl dX1_wetterBy_27 rfl 3 rfl ?_
    refine q_iadd C dX1_wetterBy_28 ?_
    exact q_iret C w dX1_wetterBy_29 (by unfold wtr; split <;> omega) rfl
  · have c1 := c1
    refine q_iload C hl dX1_wetterBy_20 0 rfl ?_
    refine q_goto (tgt := 29) C dX1_wetterBy_22 (by decide) ?_
    exact q_iret C w dX1_wetterBy_29 (by unfold wtr; split <;> omega) rfl

def rX1_wetnessAfter : Room := { frames := 4, cells := 0, slots := 0, locals := 91 }
theorem fX1_wetnessAfter : Fc yX1_wetnessAfter wsX1_wetnessAfter rX1_wetnessAfter cX1_wetnessAfter 4 (some .int) 3 := ⟨⟨_, rfl⟩, rfl, rfl, by decide +kernel, by decide +kernel, by decide +kernel⟩
set_option maxHeartbeats 4000000 in
set_option maxRecDepth 10000 in
theorem kX1_wetnessAfter (l : Launch) (D : va_G) (cI cC cS : ClassId) (h : Nat) (ad : Nat → Nat) (σ : Int → Int) (p d side : Int) (bW : Wi σ) (bp : 0 ≤ p ∧ p ≤ 15) (bd : 1 ≤ d ∧ d ≤ 99) (bs : 0 ≤ side ∧ side ≤ 2) (bw : 0 ≤ σ (13 + 6 * p + 1) ∧ σ (13 + 6 * p + 1) ≤ 999) : Ki l yX1_wetnessAfter wsX1_wetnessAfter rX1_wetnessAfter D (tz cI cC cS) [.ref h, .int (jj p), .int (jj d), .int (jj side)] (cSt cI h ad σ) (wby σ p d side) (cSt cI h ad σ) := by
  have hb := wtr_b bW p side bd.1 bd.2
  refine q_entry (cc := cX1_wetnessAfter) (nL := 4) (ret := (some .int)) (by decide) ⟨_, rfl⟩ (Nat.le_of_ble_eq_true rfl) ?_
  intro A pr en s m args below meth c C hin w ls hl
  have w := w
  have hl : lv_has ls 4 [(0, .ref h), (1, .int (jj p)), (2, .int (jj d)), (3, .int (jj side))] := hl
  refine q_sipush C dX1_wetnessAfter_0 (by decide) ?_
  refine q_aload_n C hl dX1_wetnessAfter_3 rfl 0 rfl ?_
  refine q_getS C w.1 (fun w h => List.mem_cons_of_mem _ (List.mem_append_right _ h)) 1 (by decide) (List.mem_of_getElem? (i := 1) rfl) rfl dX1_wetnessAfter_4 ?_
  refine q_iload_n C hl dX1_wetnessAfter_7 rfl 1 rfl ?_
  refine q_Sld C w.1 2 1 rfl ⟨by omega, by omega⟩ dX1_wetnessAfter_8 ?_
  refine q_aload_n C hl dX1_wetnessAfter_9 rfl 0 rfl ?_
  refine q_iload_n C hl dX1_wetnessAfter_10 rfl 1 rfl ?_
  refine q_iload_n C hl dX1_wetnessAfter_11 rfl 2 rfl ?_
  refine q_iload_n C hl dX1_wetnessAfter_12 rfl 3 rfl ?_
  refine q_runi C w fr_all (q_V (As := [.int (jj p), .int (jj d), .int (jj side)]) (rest := [.int (jj (σ (13 + 6 * p + 1))), .int (jj 999)]) C w fr_all fX1_wetterBy gX1_wetnessAfter_X1_wetterBy rfl ⟨Nat.le_of_ble_eq_true rfl, Nat.le_of_ble_eq_true rfl⟩ (kX1_wetterBy l D cI cC cS h ad σ p d side bW (by omega) (by omega) (by omega) _) (q0 := 0) rfl rfl rfl rfl hl (Nat.le_of_ble_eq_true rfl) dX1_wetnessAfter_13 ⟨Nat.le_refl 0, Nat.le_refl 0⟩) (fun H locs w => ?_)
  refine q_iadd C dX1_wetnessAfter_16 ?_
  refine q_mmin (rest := []) C hl (List.mem_of_getElem? (i := 2) rfl) (List.mem_of_getElem? (i := 3) rfl) (List.mem_of_getElem? (i := 4) rfl) (List.mem_of_getElem? (i := 5) rfl) ⟨by omega, by omega⟩ ⟨by omega, by omega⟩ (Nat.le_of_ble_eq_true rfl) (Nat.le_of_ble_eq_true rfl) (Nat.le_refl 0) (Nat.le_refl 0) dX1_wetnessAfter_17 ?_
  exact q_iret C w dX1_wetnessAfter_20 (by unfold wby; omega) rfl

def rX1_gustsBorne : Room := { frames := 4, cells := 0, slots := 0, locals := 91 }
theorem fX1_gustsBorne : Fc yX1_gustsBorne wsX1_gustsBorne rX1_gustsBorne cX1_gustsBorne 4 (some .int) 2 := ⟨⟨_, rfl⟩, rfl, rfl, by decide +kernel, by decide +kernel, by decide +kernel⟩
set_option maxHeartbeats 4000000 in
set_option maxRecDepth 10000 in
theorem kX1_gustsBorne (l : Launch) (D : va_G) (cI cC cS : ClassId) (h : Nat) (ad : Nat → Nat) (σ : Int → Int) (p d : Int) (bW : Wi σ) (bp : 0 ≤ p ∧ p ≤ 15 ∧ p < σ 0) (bd : 1 ≤ d ∧ d ≤ 99) (bq : (0 ≤ σ (13 + 6 * p + 1) ∧ σ (13 + 6 * p + 1) ≤ σ (13 + 6 * p + 2)) ∧ σ (13 + 6 * p + 2) ≤ 999) : Ki l yX1_gustsBorne wsX1_gustsBorne rX1_gustsBorne D (tz cI cC cS) [.ref h, .int (jj p), .int (jj d)] (cSt cI h ad σ) (if wtr σ p d 0 = 0 ∨ σ (13 + 6 * p + 2) = 999 then -5 else (σ (13 + 6 * p + 2) - σ (13 + 6 * p + 1)) / wtr σ p d 0) (cSt cI h ad σ) := by
  have hb := wtr_b bW p 0 bd.1 bd.2
  refine q_entry (cc := cX1_gustsBorne) (nL := 4) (ret := (some .int)) (by decide) ⟨_, rfl⟩ (Nat.le_of_ble_eq_true rfl) ?_
  intro A pr en s m args below meth c C hin w ls hl
  have w := w
  have hl : lv_has ls 4 [(0, .ref h), (1, .int (jj p)), (2, .int (jj d))] := hl
  refine q_aload_n C hl dX1_gustsBorne_0 rfl 0 rfl ?_
  refine q_iload_n C hl dX1_gustsBorne_1 rfl 1 rfl ?_
  refine q_iload_n C hl dX1_gustsBorne_2 rfl 2 rfl ?_
  refine q_iconst C dX1_gustsBorne_3 ?_
  refine q_runi C w fr_all (q_V (As := [.int (jj p), .int (jj d), .int (jj 0)]) (rest := []) C w fr_all fX1_wetterBy gX1_gustsBorne_X1_wetterBy rfl ⟨Nat.le_of_ble_eq_true rfl, Nat.le_of_ble_eq_true rfl⟩ (kX1_wetterBy l D cI cC cS h ad σ p d 0 bW (by omega) (by omega) (by omega) _) (q0 := 0) rfl rfl rfl rfl hl (Nat.le_of_ble_eq_true rfl) dX1_gustsBorne_4 ⟨Nat.le_refl 0, Nat.le_refl 0⟩) (fun H locs w => ?_)
  refine q_istore_n (lv' := [(3, .int (jj (wtr σ p d 0))), (0, .ref h), (1, .int (jj p)), (2, .int (jj d))]) C hl dX1_gustsBorne_7 rfl (by decide) rfl (fun ls hl => ?_)
  refine q_iload_n C hl dX1_gustsBorne_8 rfl 0 rfl ?_
  refine q_if_le (tgt := 24) C dX1_gustsBorne_9 (by decide) ⟨by omega, by omega⟩ (fun c1 => ?_) (fun c1 => ?_)
  · have c1 := c1
    refine q_bipush C dX1_gustsBorne_24 (by decide) ?_
    exact q_iret C w dX1_gustsBorne_26 (by (repeat' split) <;> omega) rfl
  · have c1 := c1
    refine q_aload_n C hl dX1_gustsBorne_12 rfl 1 rfl ?_
    refine q_getS C w.1 (fun w h => List.mem_cons_of_mem _ (List.mem_append_right _ h)) 2 (by decide) (List.mem_of_getElem? (i := 1) rfl) rfl dX1_gustsBorne_13 ?_
    refine q_iload_n C hl dX1_gustsBorne_16 rfl 2 rfl ?_
    refine q_Sld C w.1 3 2 rfl ⟨by omega, by omega⟩ dX1_gustsBorne_17 ?_
    refine q_sipush C dX1_gustsBorne_18 (by decide) ?_
    refine q_icmp_lt (tgt := 27) C dX1_gustsBorne_21 (by decide) ⟨by omega, by omega⟩ ⟨by omega, by omega⟩ (fun c2 => ?_) (fun c2 => ?_)
    · have c2 := c2
      refine q_aload_n C hl dX1_gustsBorne_27 rfl 1 rfl ?_
      refine q_getS C w.1 (fun w h => List.mem_cons_of_mem _ (List.mem_append_right _ h)) 2 (by decide) (List.mem_of_getElem? (i := 1) rfl) rfl dX1_gustsBorne_28 ?_
      refine q_iload_n C hl dX1_gustsBorne_31 rfl 2 rfl ?_
      refine q_Sld C w.1 3 2 rfl ⟨by omega, by omega⟩ dX1_gustsBorne_32 ?_
      refine q_aload_n C hl dX1_gustsBorne_33 rfl 1 rfl ?_
      refine q_getS C w.1 (fun w h => List.mem_cons_of_mem _ (List.mem_append_right _ h)) 1 (by decide) (List.mem_of_getElem? (i := 2) rfl) rfl dX1_gustsBorne_34 ?_
      refine q_iload_n C hl dX1_gustsBorne_37 rfl 2 rfl ?_
      refine q_Sld C w.1 2 1 rfl ⟨by omega, by omega⟩ dX1_gustsBorne_38 ?_
      refine q_isub C dX1_gustsBorne_39 ?_
      refine q_iload_n C hl dX1_gustsBorne_40 rfl 0 rfl ?_
      refine q_idiv C dX1_gustsBorne_41 ⟨by omega, by omega⟩ ⟨by omega, by omega⟩ ?_
      exact q_iret C w dX1_gustsBorne_42 (by (repeat' split) <;> omega) rfl
    · have c2 := c2
      refine q_bipush C dX1_gustsBorne_24 (by decide) ?_
      exact q_iret C w dX1_gustsBorne_26 (by (repeat' split) <;> omega) rfl

def rX1_totalWetnessAfter : Room := { frames := 5, cells := 0, slots := 0, locals := 114 }
theorem fX1_totalWetnessAfter : Fc yX1_totalWetnessAfter wsX1_totalWetnessAfter rX1_totalWetnessAfter cX1_totalWetnessAfter 5 (some .int) 2 := ⟨⟨_, rfl⟩, rfl, rfl, by decide +kernel, by decide +kernel, by decide +kernel⟩
set_option maxHeartbeats 4000000 in
set_option maxRecDepth 10000 in
theorem kX1_totalWetnessAfter (l : Launch) (D : va_G) (cI cC cS : ClassId) (h : Nat) (ad : Nat → Nat) (σ : Int → Int) (d side : Int) (bW : Wi σ) (bE : We σ) (bd : 1 ≤ d ∧ d ≤ 99) (bs : 0 ≤ side ∧ side ≤ 2) : Ki l yX1_totalWetnessAfter wsX1_totalWetnessAfter rX1_totalWetnessAfter D (tz cI cC cS) [.ref h, .int (jj d), .int (jj side)] (cSt cI h ad σ) (awb σ d side) (cSt cI h ad σ) := by
  have hn := bW.1
  have hn2 := bW.2.1
  refine q_entry (cc := cX1_totalWetnessAfter) (nL := 5) (ret := (some .int)) (by decide) ⟨_, rfl⟩ (Nat.le_of_ble_eq_true rfl) ?_
  intro A pr en s m args below meth c C hin w ls hl
  have w := w
  have hl : lv_has ls 5 [(0, .ref h), (1, .int (jj d)), (2, .int (jj side))] := hl
  refine q_iconst C dX1_totalWetnessAfter_0 ?_
  refine q_istore_n (lv' := [(3, .int (jj 0)), (0, .ref h), (1, .int (jj d)), (2, .int (jj side))]) C hl dX1_totalWetnessAfter_1 rfl (by decide) rfl (fun ls hl => ?_)
  refine q_iconst C dX1_totalWetnessAfter_2 ?_
  refine q_istore (lv' := [(4, .int (jj 0)), (3, .int (jj 0)), (0, .ref h), (1, .int (jj d)), (2, .int (jj side))]) C hl dX1_totalWetnessAfter_3 (by decide) rfl (fun ls hl => ?_)
  have loop5 : ∀ (n5 : Nat) (i : Int) (a : Int), (0 ≤ i) → (i ≤ σ 0) → (a = awf σ d side i) → (σ 0 - i).toNat < n5 → ∀ (H : Heap) (locs : List Loc), Wd D A s (cSt cI h ad σ) H locs → ∀ ls : Array Slot, lv_has ls 5 [(0, .ref h), (1, .int (jj d)), (2, .int (jj side)), (3, .int (jj a)), (4, .int (jj i))] → W pr l en rX1_totalWetnessAfter s m args below meth c H locs 0 0 (MQ below (Qi D (tz cI cC cS) (awb σ d side) (cSt cI h ad σ) A) args s 0 0 A) (F0 m 5 ls []) := by
    intro n5
    induction n5 with
    | zero => intro i a hi0 hi1 ha hm; exact absurd hm (Nat.not_lt_zero _)
    | succ n5 ih5 =>
      intro i a hi0 hi1 ha hm5 H locs w ls hl
      refine q_iload C hl dX1_totalWetnessAfter_5 4 rfl ?_
      refine q_aload_n C hl dX1_totalWetnessAfter_7 rfl 0 rfl ?_
      refine q_getS C w.1 (fun w h => List.mem_cons_of_mem _ (List.mem_append_right _ h)) 7 (by decide) (List.mem_of_getElem? (i := 1) rfl) rfl dX1_totalWetnessAfter_8 ?_
      refine q_icmp_ge (tgt := 31) C dX1_totalWetnessAfter_11 (by decide) ⟨by omega, by omega⟩ ⟨by omega, by omega⟩ (fun c1 => ?_) (fun c1 => ?_)
      · have c1 := c1
        refine q_iload_n C hl dX1_totalWetnessAfter_31 rfl 3 rfl ?_
        exact q_iret C w dX1_totalWetnessAfter_32 (by unfold awb; rw [ha, show i = σ 0 by omega]) rfl
      · have c1 := c1
        have hq := bE i hi0 (by omega)
        refine q_iload_n C hl dX1_totalWetnessAfter_14 rfl 3 rfl ?_
        refine q_aload_n C hl dX1_totalWetnessAfter_15 rfl 0 rfl ?_
        refine q_iload C hl dX1_totalWetnessAfter_16 4 rfl ?_
        refine q_iload_n C hl dX1_totalWetnessAfter_18 rfl 1 rfl ?_
        refine q_iload_n C hl dX1_totalWetnessAfter_19 rfl 2 rfl ?_
        refine q_runi C w fr_all (q_V (As := [.int (jj i), .int (jj d), .int (jj side)]) (rest := [.int (jj a)]) C w fr_all fX1_wetnessAfter gX1_totalWetnessAfter_X1_wetnessAfter rfl ⟨Nat.le_of_ble_eq_true rfl, Nat.le_of_ble_eq_true rfl⟩ (kX1_wetnessAfter l D cI cC cS h ad σ i d side bW (by omega) (by omega) (by omega) (by omega) _) (q0 := 0) rfl rfl rfl rfl hl (Nat.le_of_ble_eq_true rfl) dX1_totalWetnessAfter_20 ⟨Nat.le_refl 0, Nat.le_refl 0⟩) (fun H locs w => ?_)
        refine q_iadd C dX1_totalWetnessAfter_23 ?_
        refine q_istore_n (lv' := [(3, .int (jj (a + (wby σ i d side)))), (0, .ref h), (1, .int (jj d)), (2, .int (jj side)), (4, .int (jj i))]) C hl dX1_totalWetnessAfter_24 rfl (by decide) rfl (fun ls hl => ?_)
        refine q_iinc (lv' := [(4, .int (jj (i + 1))), (3, .int (jj (a + (wby σ i d side)))), (0, .ref h), (1, .int (jj d)), (2, .int (jj side))]) C hl dX1_totalWetnessAfter_25 4 rfl (by decide) rfl (fun ls hl => ?_)
        refine q_goto (tgt := 5) C dX1_totalWetnessAfter_28 (by decide) ?_
        exact ih5 (i + 1) (a + (wby σ i d side)) (by omega) (by omega) (by rw [awf_s σ d side hi0, ← ha]) (by omega) _ _ w ls (lv_sub hl [2, 3, 4, 1, 0] rfl)
  exact loop5 _ 0 0 (by omega) (by omega) rfl (Nat.lt_succ_self _) _ _ w ls (lv_sub hl [2, 3, 4, 1, 0] rfl)

def rX1_refusal : Room := { frames := 0, cells := 0, slots := 0, locals := 0 }
theorem fX1_refusal : Fc yX1_refusal wsX1_refusal rX1_refusal cX1_refusal 7 (some .int) 1 := ⟨⟨_, rfl⟩, rfl, rfl, by decide +kernel, by decide +kernel, by decide +kernel⟩
set_option maxHeartbeats 4000000 in
set_option maxRecDepth 10000 in
theorem kX1_refusal (l : Launch) (D : va_G) (cI cC cS : ClassId) (h : Nat) (ad : Nat → Nat) (σ : Int → Int) (p : Int) (bp2 : 0 ≤ p ∧ p + 1 < σ 0) (bW : Wi σ) (bE : We σ) : Ki l yX1_refusal wsX1_refusal rX1_refusal D (tz cI cC cS) [.ref h, .int (jj p)] (cSt cI h ad σ) (why σ p) (cSt cI h ad σ) := by
  have hn2 := bW.2.1
  have hw1 := bW.2.2 p (by omega) (by omega)
  have hw2 := bW.2.2 (p + 1) (by omega) (by omega)
  have he1 := bE p (by omega) (by omega)
  have he2 := bE (p + 1) (by omega) (by omega)
  refine q_entry (cc := cX1_refusal) (nL := 7) (ret := (some .int)) (by decide) ⟨_, rfl⟩ (Nat.le_of_ble_eq_true rfl) ?_
  intro A pr en s m args below meth c C hin w ls hl
  have w := w
  have hl : lv_has ls 7 [(0, .ref h), (1, .int (jj p))] := hl
  refine q_aload_n C hl dX1_refusal_0 rfl 0 rfl ?_
  refine q_getS C w.1 (fun w h => List.mem_cons_of_mem _ (List.mem_append_right _ h)) 4 (by decide) (List.mem_of_getElem? (i := 1) rfl) rfl dX1_refusal_1 ?_
  refine q_iload_n C hl dX1_refusal_4 rfl 1 rfl ?_
  refine q_Sld C w.1 5 4 rfl ⟨by omega, by omega⟩ dX1_refusal_5 ?_
  refine q_istore_n (lv' := [(2, .int (jj (σ (13 + 6 * p + 4)))), (0, .ref h), (1, .int (jj p))]) C hl dX1_refusal_6 rfl (by decide) rfl (fun ls hl => ?_)
  refine q_aload_n C hl dX1_refusal_7 rfl 1 rfl ?_
  refine q_getS C w.1 (fun w h => List.mem_cons_of_mem _ (List.mem_append_right _ h)) 4 (by decide) (List.mem_of_getElem? (i := 1) rfl) rfl dX1_refusal_8 ?_
  refine q_iload_n C hl dX1_refusal_11 rfl 2 rfl ?_
  refine q_iconst C dX1_refusal_12 ?_
  refine q_iadd C dX1_refusal_13 ?_
  refine q_Sld C w.1 5 4 rfl ⟨by omega, by omega⟩ dX1_refusal_14 ?_
  refine q_istore_n (lv' := [(3, .int (jj (σ (13 + 6 * (p + 1) + 4)))), (2, .int (jj (σ (13 + 6 * p + 4)))), (0, .ref h), (1, .int (jj p))]) C hl dX1_refusal_15 rfl (by decide) rfl (fun ls hl => ?_)
  refine q_iload_n C hl dX1_refusal_16 rfl 1 rfl ?_
  refine q_iload_n C hl dX1_refusal_17 rfl 0 rfl ?_
  refine q_icmp_ne (tgt := 23) C dX1_refusal_18 (by decide) ⟨by omega, by omega⟩ ⟨by omega, by omega⟩ (fun c1 => ?_) (fun c1 => ?_)
  · have c1 := c1
    refine q_iload_n C hl dX1_refusal_23 rfl 1 rfl ?_
    refine q_iload_n C hl dX1_refusal_24 rfl 0 rfl ?_
    refine q_icmp_le (tgt := 32) C dX1_refusal_25 (by decide) ⟨by omega, by omega⟩ ⟨by omega, by omega⟩ (fun c2 => ?_) (fun c2 => ?_)
    · have c2 := c2
      refine q_iload_n C hl dX1_refusal_32 rfl 3 rfl ?_
      refine q_iconst C dX1_refusal_33 ?_
      refine q_iadd C dX1_refusal_34 ?_
      refine q_istore (lv' := [(4, .int (jj (p + 1))), (3, .int (jj (σ (13 + 6 * (p + 1) + 4)))), (2, .int (jj (σ (13 + 6 * p + 4)))), (0, .ref h), (1, .int (jj p))]) C hl dX1_refusal_35 (by decide) rfl (fun ls hl => ?_)
      refine q_iload_n C hl dX1_refusal_37 rfl 2 rfl ?_
      refine q_iload_n C hl dX1_refusal_38 rfl 1 rfl ?_
      refine q_icmp_le (tgt := 48) C dX1_refusal_39 (by decide) ⟨by omega, by omega⟩ ⟨by omega, by omega⟩ (fun c3 => ?_) (fun c3 => ?_)
      · have c3 := c3
        refine q_iload_n C hl dX1_refusal_48 rfl 4 rfl ?_
        refine q_istore (lv' := [(5, .int (jj p)), (4, .int (jj (p + 1))), (3, .int (jj (σ (13 + 6 * (p + 1) + 4)))), (2, .int (jj (σ (13 + 6 * p + 4)))), (0, .ref h), (1, .int (jj p))]) C hl dX1_refusal_49 (by decide) rfl (fun ls hl => ?_)
        refine q_aload_n C hl dX1_refusal_51 rfl 4 rfl ?_
        refine q_getS C w.1 (fun w h => List.mem_cons_of_mem _ (List.mem_append_right _ h)) 1 (by decide) (List.mem_of_getElem? (i := 2) rfl) rfl dX1_refusal_52 ?_
        refine q_iload C hl dX1_refusal_55 1 rfl ?_
        refine q_Sld C w.1 2 1 rfl ⟨by omega, by omega⟩ dX1_refusal_57 ?_
        refine q_aload_n C hl dX1_refusal_58 rfl 4 rfl ?_
        refine q_getS C w.1 (fun w h => List.mem_cons_of_mem _ (List.mem_append_right _ h)) 1 (by decide) (List.mem_of_getElem? (i := 2) rfl) rfl dX1_refusal_59 ?_
        refine q_iload C hl dX1_refusal_62 0 rfl ?_
        refine q_Sld C w.1 2 1 rfl ⟨by omega, by omega⟩ dX1_refusal_64 ?_
        refine q_isub C dX1_refusal_65 ?_
        refine q_istore (lv' := [(6, .int (jj ((σ (13 + 6 * (p + 1) + 1)) - (σ (13 + 6 * p + 1))))), (5, .int (jj p)), (4, .int (jj (p + 1))), (3, .int (jj (σ (13 + 6 * (p + 1) + 4)))), (2, .int (jj (σ (13 + 6 * p + 4)))), (0, .ref h), (1, .int (jj p))]) C hl dX1_refusal_66 (by decide) rfl (fun ls hl => ?_)
        refine q_aload_n C hl dX1_refusal_68 rfl 5 rfl ?_
        refine q_getS C w.1 (fun w h => List.mem_cons_of_mem _ (List.mem_append_right _ h)) 4 (by decide) (List.mem_of_getElem? (i := 1) rfl) rfl dX1_refusal_69 ?_
        refine q_iload C hl dX1_refusal_72 1 rfl ?_
        refine q_Sld C w.1 5 4 rfl ⟨by omega, by omega⟩ dX1_refusal_74 ?_
        refine q_if_ne (tgt := 88) C dX1_refusal_75 (by decide) ⟨by omega, by omega⟩ (fun c4 => ?_) (fun c4 => ?_)
        · have c4 := c4
          refine q_iload C hl dX1_refusal_88 0 rfl ?_
          refine q_if_le (tgt := 97) C dX1_refusal_90 (by decide) ⟨by omega, by omega⟩ (fun c5 => ?_) (fun c5 => ?_)
          · have c5 := c5
            refine q_iconst C dX1_refusal_97 ?_
            exact q_iret C w dX1_refusal_98 (by unfold why mor; (repeat' split) <;> omega) rfl
          · have c5 := c5
            refine q_iconst C dX1_refusal_93 ?_
            refine q_goto (tgt := 98) C dX1_refusal_94 (by decide) ?_
            exact q_iret C w dX1_refusal_98 (by unfold why mor; (repeat' split) <;> omega) rfl
        · have c4 := c4
          refine q_iload C hl dX1_refusal_78 0 rfl ?_
          refine q_ineg C dX1_refusal_80 ?_
          refine q_bipush C dX1_refusal_81 (by decide) ?_
          refine q_icmp_ge (tgt := 88) C dX1_refusal_83 (by decide) ⟨by omega, by omega⟩ ⟨by omega, by omega⟩ (fun c6 => ?_) (fun c6 => ?_)
          · have c6 := c6
            refine q_iload C hl dX1_refusal_88 0 rfl ?_
            refine q_if_le (tgt := 97) C dX1_refusal_90 (by decide) ⟨by omega, by omega⟩ (fun c7 => ?_) (fun c7 => ?_)
            · have c7 := c7
              refine q_iconst C dX1_refusal_97 ?_
              exact q_iret C w dX1_refusal_98 (by unfold why mor; (repeat' split) <;> omega) rfl
            · have c7 := c7
              refine q_iconst C dX1_refusal_93 ?_
              refine q_goto (tgt := 98) C dX1_refusal_94 (by decide) ?_
              exact q_iret C w dX1_refusal_98 (by unfold why mor; (repeat' split) <;> omega) rfl
          · have c6 := c6
            refine q_iconst C dX1_refusal_86 ?_
            exact q_iret C w dX1_refusal_87 (by unfold why mor; (repeat' split) <;> omega) rfl
      · have c3 := c3
        refine q_iload_n C hl dX1_refusal_42 rfl 4 rfl ?_
        refine q_iconst C dX1_refusal_43 ?_
        refine q_iadd C dX1_refusal_44 ?_
        refine q_goto (tgt := 49) C dX1_refusal_45 (by decide) ?_
        refine q_istore (lv' := [(5, .int (jj (p + 1))), (4, .int (jj (p + 1))), (3, .int (jj (σ (13 + 6 * (p + 1) + 4)))), (2, .int (jj (σ (13 + 6 * p + 4)))), (0, .ref h), (1, .int (jj p))]) C hl dX1_refusal_49 (by decide) rfl (fun ls hl => ?_)
        refine q_aload_n C hl dX1_refusal_51 rfl 4 rfl ?_
        refine q_getS C w.1 (fun w h => List.mem_cons_of_mem _ (List.mem_append_right _ h)) 1 (by decide) (List.mem_of_getElem? (i := 2) rfl) rfl dX1_refusal_52 ?_
        refine q_iload C hl dX1_refusal_55 1 rfl ?_
        refine q_Sld C w.1 2 1 rfl ⟨by omega, by omega⟩ dX1_refusal_57 ?_
        refine q_aload_n C hl dX1_refusal_58 rfl 4 rfl ?_
        refine q_getS C w.1 (fun w h => List.mem_cons_of_mem _ (List.mem_append_right _ h)) 1 (by decide) (List.mem_of_getElem? (i := 2) rfl) rfl dX1_refusal_59 ?_
        refine q_iload C hl dX1_refusal_62 0 rfl ?_
        refine q_Sld C w.1 2 1 rfl ⟨by omega, by omega⟩ dX1_refusal_64 ?_
        refine q_isub C dX1_refusal_65 ?_
        refine q_istore (lv' := [(6, .int (jj ((σ (13 + 6 * (p + 1) + 1)) - (σ (13 + 6 * (p + 1) + 1))))), (5, .int (jj (p + 1))), (4, .int (jj (p + 1))), (3, .int (jj (σ (13 + 6 * (p + 1) + 4)))), (2, .int (jj (σ (13 + 6 * p + 4)))), (0, .ref h), (1, .int (jj p))]) C hl dX1_refusal_66 (by decide) rfl (fun ls hl => ?_)
        refine q_aload_n C hl dX1_refusal_68 rfl 5 rfl ?_
        refine q_getS C w.1 (fun w h => List.mem_cons_of_mem _ (List.mem_append_right _ h)) 4 (by decide) (List.mem_of_getElem? (i := 1) rfl) rfl dX1_refusal_69 ?_
        refine q_iload C hl dX1_refusal_72 1 rfl ?_
        refine q_Sld C w.1 5 4 rfl ⟨by omega, by omega⟩ dX1_refusal_74 ?_
        refine q_if_ne (tgt := 88) C dX1_refusal_75 (by decide) ⟨by omega, by omega⟩ (fun c8 => ?_) (fun c8 => ?_)
        · have c8 := c8
          refine q_iload C hl dX1_refusal_88 0 rfl ?_
          refine q_if_le (tgt := 97) C dX1_refusal_90 (by decide) ⟨by omega, by omega⟩ (fun c9 => ?_) (fun c9 => ?_)
          · have c9 := c9
            refine q_iconst C dX1_refusal_97 ?_
            exact q_iret C w dX1_refusal_98 (by unfold why mor; (repeat' split) <;> omega) rfl
          · have c9 := c9
            refine q_iconst C dX1_refusal_93 ?_
            refine q_goto (tgt := 98) C dX1_refusal_94 (by decide) ?_
            exact q_iret C w dX1_refusal_98 (by unfold why mor; (repeat' split) <;> omega) rfl
        · have c8 := c8
          refine q_iload C hl dX1_refusal_78 0 rfl ?_
          refine q_ineg C dX1_refusal_80 ?_
          refine q_bipush C dX1_refusal_81 (by decide) ?_
          refine q_icmp_ge (tgt := 88) C dX1_refusal_83 (by decide) ⟨by omega, by omega⟩ ⟨by omega, by omega⟩ (fun c10 => ?_) (fun c10 => ?_)
          · have c10 := c10
            refine q_iload C hl dX1_refusal_88 0 rfl ?_
            refine q_if_le (tgt := 97) C dX1_refusal_90 (by decide) ⟨by omega, by omega⟩ (fun c11 => ?_) (fun c11 => ?_)
            · have c11 := c11
              refine q_iconst C dX1_refusal_97 ?_
              exact q_iret C w dX1_refusal_98 (by unfold why mor; (repeat' split) <;> omega) rfl
            · have c11 := c11
              refine q_iconst C dX1_refusal_93 ?_
              refine q_goto (tgt := 98) C dX1_refusal_94 (by decide) ?_
              exact q_iret C w dX1_refusal_98 (by unfold why mor; (repeat' split) <;> omega) rfl
          · have c10 := c10
            refine q_iconst C dX1_refusal_86 ?_
            exact q_iret C w dX1_refusal_87 (by unfold why mor; (repeat' split) <;> omega) rfl
    · have c2 := c2
      refine q_iload_n C hl dX1_refusal_28 rfl 3 rfl ?_
      refine q_goto (tgt := 35) C dX1_refusal_29 (by decide) ?_
      refine q_istore (lv' := [(4, .int (jj p)), (3, .int (jj (σ (13 + 6 * (p + 1) + 4)))), (2, .int (jj (σ (13 + 6 * p + 4)))), (0, .ref h), (1, .int (jj p))]) C hl dX1_refusal_35 (by decide) rfl (fun ls hl => ?_)
      refine q_iload_n C hl dX1_refusal_37 rfl 2 rfl ?_
      refine q_iload_n C hl dX1_refusal_38 rfl 1 rfl ?_
      refine q_icmp_le (tgt := 48) C dX1_refusal_39 (by decide) ⟨by omega, by omega⟩ ⟨by omega, by omega⟩ (fun c12 => ?_) (fun c12 => ?_)
      · have c12 := c12
        refine q_iload_n C hl dX1_refusal_48 rfl 4 rfl ?_
        refine q_istore (lv' := [(5, .int (jj p)), (4, .int (jj p)), (3, .int (jj (σ (13 + 6 * (p + 1) + 4)))), (2, .int (jj (σ (13 + 6 * p + 4)))), (0, .ref h), (1, .int (jj p))]) C hl dX1_refusal_49 (by decide) rfl (fun ls hl => ?_)
        refine q_aload_n C hl dX1_refusal_51 rfl 4 rfl ?_
        refine q_getS C w.1 (fun w h => List.mem_cons_of_mem _ (List.mem_append_right _ h)) 1 (by decide) (List.mem_of_getElem? (i := 2) rfl) rfl dX1_refusal_52 ?_
        refine q_iload C hl dX1_refusal_55 1 rfl ?_
        refine q_Sld C w.1 2 1 rfl ⟨by omega, by omega⟩ dX1_refusal_57 ?_
        refine q_aload_n C hl dX1_refusal_58 rfl 4 rfl ?_
        refine q_getS C w.1 (fun w h => List.mem_cons_of_mem _ (List.mem_append_right _ h)) 1 (by decide) (List.mem_of_getElem? (i := 2) rfl) rfl dX1_refusal_59 ?_
        refine q_iload C hl dX1_refusal_62 0 rfl ?_
        refine q_Sld C w.1 2 1 rfl ⟨by omega, by omega⟩ dX1_refusal_64 ?_
        refine q_isub C dX1_refusal_65 ?_
        refine q_istore (lv' := [(6, .int (jj ((σ (13 + 6 * p + 1)) - (σ (13 + 6 * p + 1))))), (5, .int (jj p)), (4, .int (jj p)), (3, .int (jj (σ (13 + 6 * (p + 1) + 4)))), (2, .int (jj (σ (13 + 6 * p + 4)))), (0, .ref h), (1, .int (jj p))]) C hl dX1_refusal_66 (by decide) rfl (fun ls hl => ?_)
        refine q_aload_n C hl dX1_refusal_68 rfl 5 rfl ?_
        refine q_getS C w.1 (fun w h => List.mem_cons_of_mem _ (List.mem_append_right _ h)) 4 (by decide) (List.mem_of_getElem? (i := 1) rfl) rfl dX1_refusal_69 ?_
        refine q_iload C hl dX1_refusal_72 1 rfl ?_
        refine q_Sld C w.1 5 4 rfl ⟨by omega, by omega⟩ dX1_refusal_74 ?_
        refine q_if_ne (tgt := 88) C dX1_refusal_75 (by decide) ⟨by omega, by omega⟩ (fun c13 => ?_) (fun c13 => ?_)
        · have c13 := c13
          refine q_iload C hl dX1_refusal_88 0 rfl ?_
          refine q_if_le (tgt := 97) C dX1_refusal_90 (by decide) ⟨by omega, by omega⟩ (fun c14 => ?_) (fun c14 => ?_)
          · have c14 := c14
            refine q_iconst C dX1_refusal_97 ?_
            exact q_iret C w dX1_refusal_98 (by unfold why mor; (repeat' split) <;> omega) rfl
          · have c14 := c14
            refine q_iconst C dX1_refusal_93 ?_
            refine q_goto (tgt := 98) C dX1_refusal_94 (by decide) ?_
            exact q_iret C w dX1_refusal_98 (by unfold why mor; (repeat' split) <;> omega) rfl
        · have c13 := c13
          refine q_iload C hl dX1_refusal_78 0 rfl ?_
          refine q_ineg C dX1_refusal_80 ?_
          refine q_bipush C dX1_refusal_81 (by decide) ?_
          refine q_icmp_ge (tgt := 88) C dX1_refusal_83 (by decide) ⟨by omega, by omega⟩ ⟨by omega, by omega⟩ (fun c15 => ?_) (fun c15 => ?_)
          · have c15 := c15
            refine q_iload C hl dX1_refusal_88 0 rfl ?_
            refine q_if_le (tgt := 97) C dX1_refusal_90 (by decide) ⟨by omega, by omega⟩ (fun c16 => ?_) (fun c16 => ?_)
            · have c16 := c16
              refine q_iconst C dX1_refusal_97 ?_
              exact q_iret C w dX1_refusal_98 (by unfold why mor; (repeat' split) <;> omega) rfl
            · have c16 := c16
              refine q_iconst C dX1_refusal_93 ?_
              refine q_goto (tgt := 98) C dX1_refusal_94 (by decide) ?_
              exact q_iret C w dX1_refusal_98 (by unfold why mor; (repeat' split) <;> omega) rfl
          · have c15 := c15
            refine q_iconst C dX1_refusal_86 ?_
            exact q_iret C w dX1_refusal_87 (by unfold why mor; (repeat' split) <;> omega) rfl
      · have c12 := c12
        refine q_iload_n C hl dX1_refusal_42 rfl 4 rfl ?_
        refine q_iconst C dX1_refusal_43 ?_
        refine q_iadd C dX1_refusal_44 ?_
        refine q_goto (tgt := 49) C dX1_refusal_45 (by decide) ?_
        refine q_istore (lv' := [(5, .int (jj (p + 1))), (4, .int (jj p)), (3, .int (jj (σ (13 + 6 * (p + 1) + 4)))), (2, .int (jj (σ (13 + 6 * p + 4)))), (0, .ref h), (1, .int (jj p))]) C hl dX1_refusal_49 (by decide) rfl (fun ls hl => ?_)
        refine q_aload_n C hl dX1_refusal_51 rfl 4 rfl ?_
        refine q_getS C w.1 (fun w h => List.mem_cons_of_mem _ (List.mem_append_right _ h)) 1 (by decide) (List.mem_of_getElem? (i := 2) rfl) rfl dX1_refusal_52 ?_
        refine q_iload C hl dX1_refusal_55 1 rfl ?_
        refine q_Sld C w.1 2 1 rfl ⟨by omega, by omega⟩ dX1_refusal_57 ?_
        refine q_aload_n C hl dX1_refusal_58 rfl 4 rfl ?_
        refine q_getS C w.1 (fun w h => List.mem_cons_of_mem _ (List.mem_append_right _ h)) 1 (by decide) (List.mem_of_getElem? (i := 2) rfl) rfl dX1_refusal_59 ?_
        refine q_iload C hl dX1_refusal_62 0 rfl ?_
        refine q_Sld C w.1 2 1 rfl ⟨by omega, by omega⟩ dX1_refusal_64 ?_
        refine q_isub C dX1_refusal_65 ?_
        refine q_istore (lv' := [(6, .int (jj ((σ (13 + 6 * p + 1)) - (σ (13 + 6 * (p + 1) + 1))))), (5, .int (jj (p + 1))), (4, .int (jj p)), (3, .int (jj (σ (13 + 6 * (p + 1) + 4)))), (2, .int (jj (σ (13 + 6 * p + 4)))), (0, .ref h), (1, .int (jj p))]) C hl dX1_refusal_66 (by decide) rfl (fun ls hl => ?_)
        refine q_aload_n C hl dX1_refusal_68 rfl 5 rfl ?_
        refine q_getS C w.1 (fun w h => List.mem_cons_of_mem _ (List.mem_append_right _ h)) 4 (by decide) (List.mem_of_getElem? (i := 1) rfl) rfl dX1_refusal_69 ?_
        refine q_iload C hl dX1_refusal_72 1 rfl ?_
        refine q_Sld C w.1 5 4 rfl ⟨by omega, by omega⟩ dX1_refusal_74 ?_
        refine q_if_ne (tgt := 88) C dX1_refusal_75 (by decide) ⟨by omega, by omega⟩ (fun c17 => ?_) (fun c17 => ?_)
        · have c17 := c17
          refine q_iload C hl dX1_refusal_88 0 rfl ?_
          refine q_if_le (tgt := 97) C dX1_refusal_90 (by decide) ⟨by omega, by omega⟩ (fun c18 => ?_) (fun c18 => ?_)
          · have c18 := c18
            refine q_iconst C dX1_refusal_97 ?_
            exact q_iret C w dX1_refusal_98 (by unfold why mor; (repeat' split) <;> omega) rfl
          · have c18 := c18
            refine q_iconst C dX1_refusal_93 ?_
            refine q_goto (tgt := 98) C dX1_refusal_94 (by decide) ?_
            exact q_iret C w dX1_refusal_98 (by unfold why mor; (repeat' split) <;> omega) rfl
        · have c17 := c17
          refine q_iload C hl dX1_refusal_78 0 rfl ?_
          refine q_ineg C dX1_refusal_80 ?_
          refine q_bipush C dX1_refusal_81 (by decide) ?_
          refine q_icmp_ge (tgt := 88) C dX1_refusal_83 (by decide) ⟨by omega, by omega⟩ ⟨by omega, by omega⟩ (fun c19 => ?_) (fun c19 => ?_)
          · have c19 := c19
            refine q_iload C hl dX1_refusal_88 0 rfl ?_
            refine q_if_le (tgt := 97) C dX1_refusal_90 (by decide) ⟨by omega, by omega⟩ (fun c20 => ?_) (fun c20 => ?_)
            · have c20 := c20
              refine q_iconst C dX1_refusal_97 ?_
              exact q_iret C w dX1_refusal_98 (by unfold why mor; (repeat' split) <;> omega) rfl
            · have c20 := c20
              refine q_iconst C dX1_refusal_93 ?_
              refine q_goto (tgt := 98) C dX1_refusal_94 (by decide) ?_
              exact q_iret C w dX1_refusal_98 (by unfold why mor; (repeat' split) <;> omega) rfl
          · have c19 := c19
            refine q_iconst C dX1_refusal_86 ?_
            exact q_iret C w dX1_refusal_87 (by unfold why mor; (repeat' split) <;> omega) rfl
  · have c1 := c1
    refine q_iconst C dX1_refusal_21 ?_
    exact q_iret C w dX1_refusal_22 (by unfold why mor; (repeat' split) <;> omega) rfl

def rX1_driestSwap : Room := { frames := 6, cells := 0, slots := 0, locals := 138 }
theorem fX1_driestSwap : Fc yX1_driestSwap wsX1_driestSwap rX1_driestSwap cX1_driestSwap 7 (some .int) 2 := ⟨⟨_, rfl⟩, rfl, rfl, by decide +kernel, by decide +kernel, by decide +kernel⟩
set_option maxHeartbeats 4000000 in
set_option maxRecDepth 10000 in
theorem kX1_driestSwap (l : Launch) (D : va_G) (cI cC cS : ClassId) (h : Nat) (ad : Nat → Nat) (σ : Int → Int) (d side : Int) (bW : Wi σ) (bE : We σ) (bd : 1 ≤ d ∧ d ≤ 99) (bs : 0 ≤ side ∧ side ≤ 2) : Ki l yX1_driestSwap wsX1_driestSwap rX1_driestSwap D (tz cI cC cS) [.ref h, .int (jj d), .int (jj side)] (cSt cI h ad σ) ((bsl σ d side (σ 0 - 1)).1) (cSt cI h ad σ) := by
  have hn := bW.1
  have hn2 := bW.2.1
  refine q_entry (cc := cX1_driestSwap) (nL := 7) (ret := (some .int)) (by decide) ⟨_, rfl⟩ (Nat.le_of_ble_eq_true rfl) ?_
  intro A pr en s m args below meth c C hin w ls hl
  have w := w
  have hl : lv_has ls 7 [(0, .ref h), (1, .int (jj d)), (2, .int (jj side))] := hl
  refine q_bipush C dX1_driestSwap_0 (by decide) ?_
  refine q_istore_n (lv' := [(3, .int (jj (-5))), (0, .ref h), (1, .int (jj d)), (2, .int (jj side))]) C hl dX1_driestSwap_2 rfl (by decide) rfl (fun ls hl => ?_)
  refine q_aload_n C hl dX1_driestSwap_3 rfl 1 rfl ?_
  refine q_iload_n C hl dX1_driestSwap_4 rfl 2 rfl ?_
  refine q_iload_n C hl dX1_driestSwap_5 rfl 3 rfl ?_
  refine q_runi C w fr_all (q_V (As := [.int (jj d), .int (jj side)]) (rest := []) C w fr_all fX1_totalWetnessAfter gX1_driestSwap_X1_totalWetnessAfter rfl ⟨Nat.le_of_ble_eq_true rfl, Nat.le_of_ble_eq_true rfl⟩ (kX1_totalWetnessAfter l D cI cC cS h ad σ d side bW bE (by omega) (by omega) _) (q0 := 0) rfl rfl rfl rfl hl (Nat.le_of_ble_eq_true rfl) dX1_driestSwap_6 ⟨Nat.le_refl 0, Nat.le_refl 0⟩) (fun H locs w => ?_)
  refine q_istore (lv' := [(4, .int (jj (awb σ d side))), (3, .int (jj (-5))), (0, .ref h), (1, .int (jj d)), (2, .int (jj side))]) C hl dX1_driestSwap_9 (by decide) rfl (fun ls hl => ?_)
  refine q_iconst C dX1_driestSwap_11 ?_
  refine q_istore (lv' := [(5, .int (jj 0)), (4, .int (jj (awb σ d side))), (3, .int (jj (-5))), (0, .ref h), (1, .int (jj d)), (2, .int (jj side))]) C hl dX1_driestSwap_12 (by decide) rfl (fun ls hl => ?_)
  have loop14 : ∀ (n14 : Nat) (i : Int) (f : Int) (mn : Int), (0 ≤ i) → (i = 0 ∨ i + 1 ≤ σ 0) → ((f, mn) = bsl σ d side i ∧ -5 ≤ f ∧ f ≤ 15 ∧ 0 ≤ mn ∧ mn ≤ 15984) → (σ 0 - i).toNat < n14 → ∀ (H : Heap) (locs : List Loc), Wd D A s (cSt cI h ad σ) H locs → ∀ ls : Array Slot, lv_has ls 7 [(0, .ref h), (1, .int (jj d)), (2, .int (jj side)), (3, .int (jj f)), (4, .int (jj mn)), (5, .int (jj i))] → W pr l en rX1_driestSwap s m args below meth c H locs 0 0 (MQ below (Qi D (tz cI cC cS) ((bsl σ d side (σ 0 - 1)).1) (cSt cI h ad σ) A) args s 0 0 A) (F0 m 14 ls []) := by
    intro n14
    induction n14 with
    | zero => intro i f mn hi0 hi1 hf hm; exact absurd hm (Nat.not_lt_zero _)
    | succ n14 ih14 =>
      intro i f mn hi0 hi1 hf hm14 H locs w ls hl
      refine q_iload C hl dX1_driestSwap_14 5 rfl ?_
      refine q_aload_n C hl dX1_driestSwap_16 rfl 0 rfl ?_
      refine q_getS C w.1 (fun w h => List.mem_cons_of_mem _ (List.mem_append_right _ h)) 7 (by decide) (List.mem_of_getElem? (i := 1) rfl) rfl dX1_driestSwap_17 ?_
      refine q_iconst C dX1_driestSwap_20 ?_
      refine q_isub C dX1_driestSwap_21 ?_
      refine q_icmp_ge (tgt := 80) C dX1_driestSwap_22 (by decide) ⟨by omega, by omega⟩ ⟨by omega, by omega⟩ (fun c1 => ?_) (fun c1 => ?_)
      · have c1 := c1
        refine q_iload_n C hl dX1_driestSwap_80 rfl 3 rfl ?_
        exact q_iret C w dX1_driestSwap_81 (by have ee : bsl σ d side (σ 0 - 1) = bsl σ d side i := (if h0 : 1 ≤ σ 0 then (by rw [show σ 0 - 1 = i by omega]) else (by unfold bsl; rw [it_z _ _ (by omega), it_z _ _ (by omega)])); rw [ee, ← hf.1]) rfl
      · have c1 := c1
        have hy := why_b σ i
        refine q_aload_n C hl dX1_driestSwap_25 rfl 0 rfl ?_
        refine q_iload C hl dX1_driestSwap_26 5 rfl ?_
        refine q_runi C w fr_all (q_V (As := [.int (jj i)]) (rest := []) C w fr_all fX1_refusal gX1_driestSwap_X1_refusal rfl ⟨Nat.le_of_ble_eq_true rfl, Nat.le_of_ble_eq_true rfl⟩ (kX1_refusal l D cI cC cS h ad σ i (by omega) bW bE _) (q0 := 0) rfl rfl rfl rfl hl (Nat.le_of_ble_eq_true rfl) dX1_driestSwap_28 ⟨Nat.le_refl 0, Nat.le_refl 0⟩) (fun H locs w => ?_)
        refine q_if_ne (tgt := 74) C dX1_driestSwap_31 (by decide) ⟨by omega, by omega⟩ (fun c2 => ?_) (fun c2 => ?_)
        · have c2 := c2
          refine q_iinc (lv' := [(5, .int (jj (i + 1))), (0, .ref h), (1, .int (jj d)), (2, .int (jj side)), (3, .int (jj f)), (4, .int (jj mn))]) C hl dX1_driestSwap_74 5 rfl (by decide) rfl (fun ls hl => ?_)
          refine q_goto (tgt := 14) C dX1_driestSwap_77 (by decide) ?_
          exact ih14 (i + 1) f mn (by omega) (by omega) ⟨by rw [bsl_s σ d side hi0, ← hf.1]; show _ = (if why σ i = 0 then (if awb (xch σ i 4) d side < mn then (i, awb (xch σ i 4) d side) else (f, mn)) else (f, mn)); (repeat' split) <;> first | rfl | (exfalso; omega), by omega, by omega, by omega, by omega⟩ (by omega) _ _ w ls (lv_sub hl [1, 2, 3, 4, 5, 0] rfl)
        · have c2 := c2
          refine q_aload_n C hl dX1_driestSwap_34 rfl 0 rfl ?_
          refine q_getS C w.1 (fun w h => List.mem_cons_of_mem _ (List.mem_append_right _ h)) 4 (by decide) (List.mem_of_getElem? (i := 2) rfl) rfl dX1_driestSwap_35 ?_
          refine q_iload C hl dX1_driestSwap_38 5 rfl ?_
          refine q_runv C w (fx4 (by omega)) (q_S (As := [.ref (ad 4), .int (jj i)]) (rest := []) C w fs4 fX1_exchange gX1_driestSwap_X1_exchange ⟨Nat.le_of_ble_eq_true rfl, Nat.le_of_ble_eq_true rfl⟩ (kX1_exchange l D cI cC cS (ad 4) (rr σ 4) i (by omega) _) rfl rfl hl (Nat.le_of_ble_eq_true rfl) dX1_driestSwap_40 ⟨Nat.le_refl 0, Nat.le_refl 0⟩) (fun H locs w => ?_)
          have xW := xch_W bW hi0 (by omega)
          have xE := xch_E bE hi0
          have xb := awb_b xW xE (d := d) (side := side) bd.1 bd.2
          refine q_aload_n C hl dX1_driestSwap_43 rfl 0 rfl ?_
          refine q_iload_n C hl dX1_driestSwap_44 rfl 1 rfl ?_
          refine q_iload_n C hl dX1_driestSwap_45 rfl 2 rfl ?_
          refine q_runi C w fr_all (q_V (As := [.int (jj d), .int (jj side)]) (rest := []) C w fr_all fX1_totalWetnessAfter gX1_driestSwap_X1_totalWetnessAfter rfl ⟨Nat.le_of_ble_eq_true rfl, Nat.le_of_ble_eq_true rfl⟩ (kX1_totalWetnessAfter l D cI cC cS h ad (xch σ i 4) d side xW xE (by omega) (by omega) _) (q0 := 0) rfl rfl rfl rfl hl (Nat.le_of_ble_eq_true rfl) dX1_driestSwap_46 ⟨Nat.le_refl 0, Nat.le_refl 0⟩) (fun H locs w => ?_)
          refine q_istore (lv' := [(6, .int (jj (awb (xch σ i 4) d side))), (0, .ref h), (1, .int (jj d)), (2, .int (jj side)), (3, .int (jj f)), (4, .int (jj mn)), (5, .int (jj i))]) C hl dX1_driestSwap_49 (by decide) rfl (fun ls hl => ?_)
          refine q_aload_n C hl dX1_driestSwap_51 rfl 1 rfl ?_
          refine q_getS C w.1 (fun w h => List.mem_cons_of_mem _ (List.mem_append_right _ h)) 4 (by decide) (List.mem_of_getElem? (i := 2) rfl) rfl dX1_driestSwap_52 ?_
          refine q_iload C hl dX1_driestSwap_55 6 rfl ?_
          refine q_runv C w (fx4 (by omega)) (q_S (As := [.ref (ad 4), .int (jj i)]) (rest := []) C w fs4 fX1_exchange gX1_driestSwap_X1_exchange ⟨Nat.le_of_ble_eq_true rfl, Nat.le_of_ble_eq_true rfl⟩ (kX1_exchange l D cI cC cS (ad 4) (rr (xch σ i 4) 4) i (by omega) _) rfl rfl hl (Nat.le_of_ble_eq_true rfl) dX1_driestSwap_57 ⟨Nat.le_refl 0, Nat.le_refl 0⟩) (fun H locs w => ?_)
          rw [xch_xch] at w
          refine q_iload C hl dX1_driestSwap_60 0 rfl ?_
          refine q_iload C hl dX1_driestSwap_62 5 rfl ?_
          refine q_icmp_ge (tgt := 74) C dX1_driestSwap_64 (by decide) ⟨by omega, by omega⟩ ⟨by omega, by omega⟩ (fun c3 => ?_) (fun c3 => ?_)
          · have c3 := c3
            refine q_iinc (lv' := [(5, .int (jj (i + 1))), (6, .int (jj (awb (xch σ i 4) d side))), (0, .ref h), (1, .int (jj d)), (2, .int (jj side)), (3, .int (jj f)), (4, .int (jj mn))]) C hl dX1_driestSwap_74 6 rfl (by decide) rfl (fun ls hl => ?_)
            refine q_goto (tgt := 14) C dX1_driestSwap_77 (by decide) ?_
            exact ih14 (i + 1) f mn (by omega) (by omega) ⟨by rw [bsl_s σ d side hi0, ← hf.1]; show _ = (if why σ i = 0 then (if awb (xch σ i 4) d side < mn then (i, awb (xch σ i 4) d side) else (f, mn)) else (f, mn)); (repeat' split) <;> first | rfl | (exfalso; omega), by omega, by omega, by omega, by omega⟩ (by omega) _ _ w ls (lv_sub hl [2, 3, 4, 5, 6, 0] rfl)
          · have c3 := c3
            refine q_iload C hl dX1_driestSwap_67 0 rfl ?_
            refine q_istore (lv' := [(4, .int (jj (awb (xch σ i 4) d side))), (6, .int (jj (awb (xch σ i 4) d side))), (0, .ref h), (1, .int (jj d)), (2, .int (jj side)), (3, .int (jj f)), (5, .int (jj i))]) C hl dX1_driestSwap_69 (by decide) rfl (fun ls hl => ?_)
            refine q_iload C hl dX1_driestSwap_71 6 rfl ?_
            refine q_istore_n (lv' := [(3, .int (jj i)), (4, .int (jj (awb (xch σ i 4) d side))), (6, .int (jj (awb (xch σ i 4) d side))), (0, .ref h), (1, .int (jj d)), (2, .int (jj side)), (5, .int (jj i))]) C hl dX1_driestSwap_73 rfl (by decide) rfl (fun ls hl => ?_)
            refine q_iinc (lv' := [(5, .int (jj (i + 1))), (3, .int (jj i)), (4, .int (jj (awb (xch σ i 4) d side))), (6, .int (jj (awb (xch σ i 4) d side))), (0, .ref h), (1, .int (jj d)), (2, .int (jj side))]) C hl dX1_driestSwap_74 6 rfl (by decide) rfl (fun ls hl => ?_)
            refine q_goto (tgt := 14) C dX1_driestSwap_77 (by decide) ?_
            exact ih14 (i + 1) i (awb (xch σ i 4) d side) (by omega) (by omega) ⟨by rw [bsl_s σ d side hi0, ← hf.1]; show _ = (if why σ i = 0 then (if awb (xch σ i 4) d side < mn then (i, awb (xch σ i 4) d side) else (f, mn)) else (f, mn)); (repeat' split) <;> first | rfl | (exfalso; omega), by omega, by omega, by omega, by omega⟩ (by omega) _ _ w ls (lv_sub hl [4, 5, 6, 1, 2, 0] rfl)
  exact loop14 _ 0 (-5) (awb σ d side) (by omega) (by omega) ⟨rfl, by omega, by omega, (awb_b bW bE bd.1 bd.2).1, (awb_b bW bE bd.1 bd.2).2⟩ (Nat.lt_succ_self _) _ _ w ls (lv_sub hl [3, 4, 5, 2, 1, 0] rfl)

def rX1_peopleToServe : Room := { frames := 1, cells := 0, slots := 0, locals := 21 }
theorem fX1_peopleToServe : Fc yX1_peopleToServe wsX1_peopleToServe rX1_peopleToServe cX1_peopleToServe 1 (some .int) 0 := ⟨⟨_, rfl⟩, rfl, rfl, by decide +kernel, by decide +kernel, by decide +kernel⟩
set_option maxHeartbeats 4000000 in
set_option maxRecDepth 10000 in
theorem kX1_peopleToServe (l : Launch) (D : va_G) (cI cC cS : ClassId) (h : Nat) (ad : Nat → Nat) (σ : Int → Int)  (bn : 0 ≤ σ 0 ∧ σ 0 ≤ 16) (bv : 1 ≤ σ 11 ∧ σ 11 ≤ 4) : Ki l yX1_peopleToServe wsX1_peopleToServe rX1_peopleToServe D (tz cI cC cS) [.ref h] (cSt cI h ad σ) (srv σ) (cSt cI h ad σ) := by
  refine q_entry (cc := cX1_peopleToServe) (nL := 1) (ret := (some .int)) (by decide) ⟨_, rfl⟩ (Nat.le_of_ble_eq_true rfl) ?_
  intro A pr en s m args below meth c C hin w ls hl
  have w := w
  have hl : lv_has ls 1 [(0, .ref h)] := hl
  refine q_aload_n C hl dX1_peopleToServe_0 rfl 0 rfl ?_
  refine q_getS C w.1 (fun w h => List.mem_cons_of_mem _ (List.mem_append_right _ h)) 7 (by decide) (List.mem_of_getElem? (i := 1) rfl) rfl dX1_peopleToServe_1 ?_
  refine q_aload_n C hl dX1_peopleToServe_4 rfl 0 rfl ?_
  refine q_getS C w.1 (fun w h => List.mem_cons_of_mem _ (List.mem_append_right _ h)) 6 (by decide) (List.mem_of_getElem? (i := 2) rfl) rfl dX1_peopleToServe_5 ?_
  refine q_iconst C dX1_peopleToServe_8 ?_
  refine q_Stld (v := σ 11) C w.1 ⟨by omega, by omega⟩ rfl dX1_peopleToServe_9 ?_
  refine q_mmin (rest := []) C hl (List.mem_of_getElem? (i := 3) rfl) (List.mem_of_getElem? (i := 4) rfl) (List.mem_of_getElem? (i := 5) rfl) (List.mem_of_getElem? (i := 6) rfl) ⟨by omega, by omega⟩ ⟨by omega, by omega⟩ (Nat.le_of_ble_eq_true rfl) (Nat.le_of_ble_eq_true rfl) (Nat.le_refl 0) (Nat.le_refl 0) dX1_peopleToServe_10 ?_
  exact q_iret C w dX1_peopleToServe_13 (by unfold srv; omega) rfl

def rX1_fareForAll : Room := { frames := 2, cells := 0, slots := 0, locals := 41 }
theorem fX1_fareForAll : Fc yX1_fareForAll wsX1_fareForAll rX1_fareForAll cX1_fareForAll 1 (some .int) 0 := ⟨⟨_, rfl⟩, rfl, rfl, by decide +kernel, by decide +kernel, by decide +kernel⟩
set_option maxHeartbeats 4000000 in
set_option maxRecDepth 10000 in
theorem kX1_fareForAll (l : Launch) (D : va_G) (cI cC cS : ClassId) (h : Nat) (ad : Nat → Nat) (σ : Int → Int)  (bn : 0 ≤ σ 0 ∧ σ 0 ≤ 16) (bv : 1 ≤ σ 11 ∧ σ 11 ≤ 4) : Ki l yX1_fareForAll wsX1_fareForAll rX1_fareForAll D (tz cI cC cS) [.ref h] (cSt cI h ad σ) (srv σ * σ 12) (cSt cI h ad σ) := by
  refine q_entry (cc := cX1_fareForAll) (nL := 1) (ret := (some .int)) (by decide) ⟨_, rfl⟩ (Nat.le_of_ble_eq_true rfl) ?_
  intro A pr en s m args below meth c C hin w ls hl
  have w := w
  have hl : lv_has ls 1 [(0, .ref h)] := hl
  refine q_aload_n C hl dX1_fareForAll_0 rfl 0 rfl ?_
  refine q_runi C w fr_all (q_V (As := []) (rest := []) C w fr_all fX1_peopleToServe gX1_fareForAll_X1_peopleToServe rfl ⟨Nat.le_of_ble_eq_true rfl, Nat.le_of_ble_eq_true rfl⟩ (kX1_peopleToServe l D cI cC cS h ad σ  (by omega) (by omega) _) (q0 := 0) rfl rfl rfl rfl hl (Nat.le_of_ble_eq_true rfl) dX1_fareForAll_1 ⟨Nat.le_refl 0, Nat.le_refl 0⟩) (fun H locs w => ?_)
  refine q_aload_n C hl dX1_fareForAll_4 rfl 0 rfl ?_
  refine q_getS C w.1 (fun w h => List.mem_cons_of_mem _ (List.mem_append_right _ h)) 6 (by decide) (List.mem_of_getElem? (i := 1) rfl) rfl dX1_fareForAll_5 ?_
  refine q_iconst C dX1_fareForAll_8 ?_
  refine q_Stld (v := σ 12) C w.1 ⟨by omega, by omega⟩ rfl dX1_fareForAll_9 ?_
  refine q_imul C dX1_fareForAll_10 ?_
  exact q_iret C w dX1_fareForAll_11 (by first | rfl | omega) rfl

def rX1_driestToServe : Room := { frames := 2, cells := 0, slots := 0, locals := 41 }
theorem fX1_driestToServe : Fc yX1_driestToServe wsX1_driestToServe rX1_driestToServe cX1_driestToServe 4 (some .int) 0 := ⟨⟨_, rfl⟩, rfl, rfl, by decide +kernel, by decide +kernel, by decide +kernel⟩
set_option maxHeartbeats 4000000 in
set_option maxRecDepth 10000 in
theorem kX1_driestToServe (l : Launch) (D : va_G) (cI cC cS : ClassId) (h : Nat) (ad : Nat → Nat) (σ : Int → Int)  (bn : 1 ≤ σ 0 ∧ σ 0 ≤ 16) (bv : 1 ≤ σ 11 ∧ σ 11 ≤ 4) (bE : We σ) : Ki l yX1_driestToServe wsX1_driestToServe rX1_driestToServe D (tz cI cC cS) [.ref h] (cSt cI h ad σ) (dri σ (srv σ)) (cSt cI h ad σ) := by
  have hs := srv_b bn bv
  refine q_entry (cc := cX1_driestToServe) (nL := 4) (ret := (some .int)) (by decide) ⟨_, rfl⟩ (Nat.le_of_ble_eq_true rfl) ?_
  intro A pr en s m args below meth c C hin w ls hl
  have w := w
  have hl : lv_has ls 4 [(0, .ref h)] := hl
  refine q_aload_n C hl dX1_driestToServe_0 rfl 0 rfl ?_
  refine q_runi C w fr_all (q_V (As := []) (rest := []) C w fr_all fX1_peopleToServe gX1_driestToServe_X1_peopleToServe rfl ⟨Nat.le_of_ble_eq_true rfl, Nat.le_of_ble_eq_true rfl⟩ (kX1_peopleToServe l D cI cC cS h ad σ  (by omega) (by omega) _) (q0 := 0) rfl rfl rfl rfl hl (Nat.le_of_ble_eq_true rfl) dX1_driestToServe_1 ⟨Nat.le_refl 0, Nat.le_refl 0⟩) (fun H locs w => ?_)
  refine q_istore_n (lv' := [(1, .int (jj (srv σ))), (0, .ref h)]) C hl dX1_driestToServe_4 rfl (by decide) rfl (fun ls hl => ?_)
  refine q_iconst C dX1_driestToServe_5 ?_
  refine q_istore_n (lv' := [(2, .int (jj 0)), (1, .int (jj (srv σ))), (0, .ref h)]) C hl dX1_driestToServe_6 rfl (by decide) rfl (fun ls hl => ?_)
  refine q_iconst C dX1_driestToServe_7 ?_
  refine q_istore_n (lv' := [(3, .int (jj 1)), (2, .int (jj 0)), (1, .int (jj (srv σ))), (0, .ref h)]) C hl dX1_driestToServe_8 rfl (by decide) rfl (fun ls hl => ?_)
  have loop9 : ∀ (n9 : Nat) (i : Int) (f : Int), (1 ≤ i) → (i ≤ srv σ) → (f = dri σ i ∧ 0 ≤ f ∧ f < i) → (srv σ - i).toNat < n9 → ∀ (H : Heap) (locs : List Loc), Wd D A s (cSt cI h ad σ) H locs → ∀ ls : Array Slot, lv_has ls 4 [(0, .ref h), (1, .int (jj (srv σ))), (2, .int (jj f)), (3, .int (jj i))] → W pr l en rX1_driestToServe s m args below meth c H locs 0 0 (MQ below (Qi D (tz cI cC cS) (dri σ (srv σ)) (cSt cI h ad σ) A) args s 0 0 A) (F0 m 9 ls []) := by
    intro n9
    induction n9 with
    | zero => intro i f hi0 hi1 hf hm; exact absurd hm (Nat.not_lt_zero _)
    | succ n9 ih9 =>
      intro i f hi0 hi1 hf hm9 H locs w ls hl
      refine q_iload_n C hl dX1_driestToServe_9 rfl 3 rfl ?_
      refine q_iload_n C hl dX1_driestToServe_10 rfl 1 rfl ?_
      refine q_icmp_ge (tgt := 37) C dX1_driestToServe_11 (by decide) ⟨by omega, by omega⟩ ⟨by omega, by omega⟩ (fun c1 => ?_) (fun c1 => ?_)
      · have c1 := c1
        refine q_iload_n C hl dX1_driestToServe_37 rfl 2 rfl ?_
        exact q_iret C w dX1_driestToServe_38 (by rw [hf.1, show i = srv σ by omega]) rfl
      · have c1 := c1
        have hq := bE i (by omega) (by omega)
        have hq2 := bE f (by omega) (by omega)
        refine q_aload_n C hl dX1_driestToServe_14 rfl 0 rfl ?_
        refine q_getS C w.1 (fun w h => List.mem_cons_of_mem _ (List.mem_append_right _ h)) 1 (by decide) (List.mem_of_getElem? (i := 1) rfl) rfl dX1_driestToServe_15 ?_
        refine q_iload_n C hl dX1_driestToServe_18 rfl 3 rfl ?_
        refine q_Sld C w.1 2 1 rfl ⟨by omega, by omega⟩ dX1_driestToServe_19 ?_
        refine q_aload_n C hl dX1_driestToServe_20 rfl 0 rfl ?_
        refine q_getS C w.1 (fun w h => List.mem_cons_of_mem _ (List.mem_append_right _ h)) 1 (by decide) (List.mem_of_getElem? (i := 1) rfl) rfl dX1_driestToServe_21 ?_
        refine q_iload_n C hl dX1_driestToServe_24 rfl 2 rfl ?_
        refine q_Sld C w.1 2 1 rfl ⟨by omega, by omega⟩ dX1_driestToServe_25 ?_
        refine q_icmp_ge (tgt := 31) C dX1_driestToServe_26 (by decide) ⟨by omega, by omega⟩ ⟨by omega, by omega⟩ (fun c2 => ?_) (fun c2 => ?_)
        · have c2 := c2
          refine q_iinc (lv' := [(3, .int (jj (i + 1))), (0, .ref h), (1, .int (jj (srv σ))), (2, .int (jj f))]) C hl dX1_driestToServe_31 3 rfl (by decide) rfl (fun ls hl => ?_)
          refine q_goto (tgt := 9) C dX1_driestToServe_34 (by decide) ?_
          exact ih9 (i + 1) f (by omega) (by omega) ⟨by rw [dri_s σ (by omega), ← hf.1]; unfold drf; split <;> omega, by omega, by omega⟩ (by omega) _ _ w ls (lv_sub hl [1, 2, 3, 0] rfl)
        · have c2 := c2
          refine q_iload_n C hl dX1_driestToServe_29 rfl 3 rfl ?_
          refine q_istore_n (lv' := [(2, .int (jj i)), (0, .ref h), (1, .int (jj (srv σ))), (3, .int (jj i))]) C hl dX1_driestToServe_30 rfl (by decide) rfl (fun ls hl => ?_)
          refine q_iinc (lv' := [(3, .int (jj (i + 1))), (2, .int (jj i)), (0, .ref h), (1, .int (jj (srv σ)))]) C hl dX1_driestToServe_31 3 rfl (by decide) rfl (fun ls hl => ?_)
          refine q_goto (tgt := 9) C dX1_driestToServe_34 (by decide) ?_
          exact ih9 (i + 1) i (by omega) (by omega) ⟨by rw [dri_s σ (by omega), ← hf.1]; unfold drf; split <;> omega, by omega, by omega⟩ (by omega) _ _ w ls (lv_sub hl [2, 3, 1, 0] rfl)
  exact loop9 _ 1 0 (by omega) (by omega) ⟨(dri_1 σ).symm, by omega, by omega⟩ (Nat.lt_succ_self _) _ _ w ls (lv_sub hl [3, 2, 1, 0] rfl)

def rX1_paidFrom : Room := { frames := 3, cells := 0, slots := 0, locals := 61 }
theorem fX1_paidFrom : Fc yX1_paidFrom wsX1_paidFrom rX1_paidFrom cX1_paidFrom 2 (some .int) 1 := ⟨⟨_, rfl⟩, rfl, rfl, by decide +kernel, by decide +kernel, by decide +kernel⟩
set_option maxHeartbeats 4000000 in
set_option maxRecDepth 10000 in
theorem kX1_paidFrom (l : Launch) (D : va_G) (cI cC cS : ClassId) (h : Nat) (ad : Nat → Nat) (σ : Int → Int) (p : Int) (bn : 1 ≤ σ 0 ∧ σ 0 ≤ 16) (bv : 1 ≤ σ 11 ∧ σ 11 ≤ 4) (bf : 0 ≤ σ 12 ∧ σ 12 ≤ 99) (bp : 0 ≤ p ∧ p ≤ 15) (bco : 0 ≤ σ (13 + 6 * p + 3) ∧ σ (13 + 6 * p + 3) ≤ 9999) : Ki l yX1_paidFrom wsX1_paidFrom rX1_paidFrom D (tz cI cC cS) [.ref h, .int (jj p)] (cSt cI h ad σ) (min (σ (13 + 6 * p + 3)) (srv σ * σ 12)) (cSt cI h ad σ) := by
  have hs := srv_b bn bv
  have hf := far_b (x := srv σ) (d := σ 12) (by omega) (by omega) bf.1 bf.2
  refine q_entry (cc := cX1_paidFrom) (nL := 2) (ret := (some .int)) (by decide) ⟨_, rfl⟩ (Nat.le_of_ble_eq_true rfl) ?_
  intro A pr en s m args below meth c C hin w ls hl
  have w := w
  have hl : lv_has ls 2 [(0, .ref h), (1, .int (jj p))] := hl
  refine q_aload_n C hl dX1_paidFrom_0 rfl 0 rfl ?_
  refine q_getS C w.1 (fun w h => List.mem_cons_of_mem _ (List.mem_append_right _ h)) 3 (by decide) (List.mem_of_getElem? (i := 1) rfl) rfl dX1_paidFrom_1 ?_
  refine q_iload_n C hl dX1_paidFrom_4 rfl 1 rfl ?_
  refine q_Sld C w.1 4 3 rfl ⟨by omega, by omega⟩ dX1_paidFrom_5 ?_
  refine q_aload_n C hl dX1_paidFrom_6 rfl 0 rfl ?_
  refine q_runi C w fr_all (q_V (As := []) (rest := [.int (jj (σ (13 + 6 * p + 3)))]) C w fr_all fX1_fareForAll gX1_paidFrom_X1_fareForAll rfl ⟨Nat.le_of_ble_eq_true rfl, Nat.le_of_ble_eq_true rfl⟩ (kX1_fareForAll l D cI cC cS h ad σ  (by omega) (by omega) _) (q0 := 0) rfl rfl rfl rfl hl (Nat.le_of_ble_eq_true rfl) dX1_paidFrom_7 ⟨Nat.le_refl 0, Nat.le_refl 0⟩) (fun H locs w => ?_)
  refine q_mmin (rest := []) C hl (List.mem_of_getElem? (i := 2) rfl) (List.mem_of_getElem? (i := 3) rfl) (List.mem_of_getElem? (i := 4) rfl) (List.mem_of_getElem? (i := 5) rfl) ⟨by omega, by omega⟩ ⟨by omega, by omega⟩ (Nat.le_of_ble_eq_true rfl) (Nat.le_of_ble_eq_true rfl) (Nat.le_refl 0) (Nat.le_refl 0) dX1_paidFrom_10 ?_
  exact q_iret C w dX1_paidFrom_13 (by first | rfl | omega) rfl

def rX1_totalWetness : Room := { frames := 0, cells := 0, slots := 0, locals := 0 }
theorem fX1_totalWetness : Fc yX1_totalWetness wsX1_totalWetness rX1_totalWetness cX1_totalWetness 3 (some .int) 0 := ⟨⟨_, rfl⟩, rfl, rfl, by decide +kernel, by decide +kernel, by decide +kernel⟩
set_option maxHeartbeats 4000000 in
set_option maxRecDepth 10000 in
theorem kX1_totalWetness (l : Launch) (D : va_G) (cI cC cS : ClassId) (h : Nat) (ad : Nat → Nat) (σ : Int → Int)  (bn : 0 ≤ σ 0 ∧ σ 0 ≤ 16) : Ki l yX1_totalWetness wsX1_totalWetness rX1_totalWetness D (tz cI cC cS) [.ref h] (cSt cI h ad σ) (swf σ (σ 0)) (cSt cI h ad σ) := by
  refine q_entry (cc := cX1_totalWetness) (nL := 3) (ret := (some .int)) (by decide) ⟨_, rfl⟩ (Nat.le_of_ble_eq_true rfl) ?_
  intro A pr en s m args below meth c C hin w ls hl
  have w := w
  have hl : lv_has ls 3 [(0, .ref h)] := hl
  refine q_iconst C dX1_totalWetness_0 ?_
  refine q_istore_n (lv' := [(1, .int (jj 0)), (0, .ref h)]) C hl dX1_totalWetness_1 rfl (by decide) rfl (fun ls hl => ?_)
  refine q_iconst C dX1_totalWetness_2 ?_
  refine q_istore_n (lv' := [(2, .int (jj 0)), (1, .int (jj 0)), (0, .ref h)]) C hl dX1_totalWetness_3 rfl (by decide) rfl (fun ls hl => ?_)
  have loop4 : ∀ (n4 : Nat) (i : Int) (a : Int), (0 ≤ i) → (i ≤ σ 0) → (a = swf σ i) → (σ 0 - i).toNat < n4 → ∀ (H : Heap) (locs : List Loc), Wd D A s (cSt cI h ad σ) H locs → ∀ ls : Array Slot, lv_has ls 3 [(0, .ref h), (1, .int (jj a)), (2, .int (jj i))] → W pr l en rX1_totalWetness s m args below meth c H locs 0 0 (MQ below (Qi D (tz cI cC cS) (swf σ (σ 0)) (cSt cI h ad σ) A) args s 0 0 A) (F0 m 4 ls []) := by
    intro n4
    induction n4 with
    | zero => intro i a hi0 hi1 ha hm; exact absurd hm (Nat.not_lt_zero _)
    | succ n4 ih4 =>
      intro i a hi0 hi1 ha hm4 H locs w ls hl
      refine q_iload_n C hl dX1_totalWetness_4 rfl 2 rfl ?_
      refine q_aload_n C hl dX1_totalWetness_5 rfl 0 rfl ?_
      refine q_getS C w.1 (fun w h => List.mem_cons_of_mem _ (List.mem_append_right _ h)) 7 (by decide) (List.mem_of_getElem? (i := 1) rfl) rfl dX1_totalWetness_6 ?_
      refine q_icmp_ge (tgt := 27) C dX1_totalWetness_9 (by decide) ⟨by omega, by omega⟩ ⟨by omega, by omega⟩ (fun c1 => ?_) (fun c1 => ?_)
      · have c1 := c1
        refine q_iload_n C hl dX1_totalWetness_27 rfl 1 rfl ?_
        exact q_iret C w dX1_totalWetness_28 (by rw [ha, show i = σ 0 by omega]) rfl
      · have c1 := c1
        refine q_iload_n C hl dX1_totalWetness_12 rfl 1 rfl ?_
        refine q_aload_n C hl dX1_totalWetness_13 rfl 0 rfl ?_
        refine q_getS C w.1 (fun w h => List.mem_cons_of_mem _ (List.mem_append_right _ h)) 1 (by decide) (List.mem_of_getElem? (i := 2) rfl) rfl dX1_totalWetness_14 ?_
        refine q_iload_n C hl dX1_totalWetness_17 rfl 2 rfl ?_
        refine q_Sld C w.1 2 1 rfl ⟨by omega, by omega⟩ dX1_totalWetness_18 ?_
        refine q_iadd C dX1_totalWetness_19 ?_
        refine q_istore_n (lv' := [(1, .int (jj (a + (σ (13 + 6 * i + 1))))), (0, .ref h), (2, .int (jj i))]) C hl dX1_totalWetness_20 rfl (by decide) rfl (fun ls hl => ?_)
        refine q_iinc (lv' := [(2, .int (jj (i + 1))), (1, .int (jj (a + (σ (13 + 6 * i + 1))))), (0, .ref h)]) C hl dX1_totalWetness_21 2 rfl (by decide) rfl (fun ls hl => ?_)
        refine q_goto (tgt := 4) C dX1_totalWetness_24 (by decide) ?_
        exact ih4 (i + 1) (a + (σ (13 + 6 * i + 1))) (by omega) (by omega) (by rw [swf_s σ hi0, ← ha]) (by omega) _ _ w ls (lv_sub hl [2, 1, 0] rfl)
  exact loop4 _ 0 0 (by omega) (by omega) rfl (Nat.lt_succ_self _) _ _ w ls (lv_sub hl [2, 1, 0] rfl)

def rX1_wettest : Room := { frames := 0, cells := 0, slots := 0, locals := 0 }
theorem fX1_wettest : Fc yX1_wettest wsX1_wettest rX1_wettest cX1_wettest 4 (some .int) 0 := ⟨⟨_, rfl⟩, rfl, rfl, by decide +kernel, by decide +kernel, by decide +kernel⟩
set_option maxHeartbeats 4000000 in
set_option maxRecDepth 10000 in
theorem kX1_wettest (l : Launch) (D : va_G) (cI cC cS : ClassId) (h : Nat) (ad : Nat → Nat) (σ : Int → Int)  (bn : 0 ≤ σ 0 ∧ σ 0 ≤ 16) (bE : We σ) : Ki l yX1_wettest wsX1_wettest rX1_wettest D (tz cI cC cS) [.ref h] (cSt cI h ad σ) (wtu σ) (cSt cI h ad σ) := by
  refine q_entry (cc := cX1_wettest) (nL := 4) (ret := (some .int)) (by decide) ⟨_, rfl⟩ (Nat.le_of_ble_eq_true rfl) ?_
  intro A pr en s m args below meth c C hin w ls hl
  have w := w
  have hl : lv_has ls 4 [(0, .ref h)] := hl
  refine q_bipush C dX1_wettest_0 (by decide) ?_
  refine q_istore_n (lv' := [(1, .int (jj (-5))), (0, .ref h)]) C hl dX1_wettest_2 rfl (by decide) rfl (fun ls hl => ?_)
  refine q_iconst C dX1_wettest_3 ?_
  refine q_istore_n (lv' := [(2, .int (jj (-1))), (1, .int (jj (-5))), (0, .ref h)]) C hl dX1_wettest_4 rfl (by decide) rfl (fun ls hl => ?_)
  refine q_iconst C dX1_wettest_5 ?_
  refine q_istore_n (lv' := [(3, .int (jj 0)), (2, .int (jj (-1))), (1, .int (jj (-5))), (0, .ref h)]) C hl dX1_wettest_6 rfl (by decide) rfl (fun ls hl => ?_)
  have loop7 : ∀ (n7 : Nat) (i : Int) (f : Int) (mo : Int), (0 ≤ i) → (i ≤ σ 0) → ((i = 0 ∧ f = -5 ∧ mo = -1) ∨ (1 ≤ i ∧ f = wtt σ i ∧ mo = σ (13 + 6 * f + 1) ∧ 0 ≤ f ∧ f < i ∧ 0 ≤ mo ∧ mo ≤ 999)) → (σ 0 - i).toNat < n7 → ∀ (H : Heap) (locs : List Loc), Wd D A s (cSt cI h ad σ) H locs → ∀ ls : Array Slot, lv_has ls 4 [(0, .ref h), (1, .int (jj f)), (2, .int (jj mo)), (3, .int (jj i))] → W pr l en rX1_wettest s m args below meth c H locs 0 0 (MQ below (Qi D (tz cI cC cS) (wtu σ) (cSt cI h ad σ) A) args s 0 0 A) (F0 m 7 ls []) := by
    intro n7
    induction n7 with
    | zero => intro i f mo hi0 hi1 hf hm; exact absurd hm (Nat.not_lt_zero _)
    | succ n7 ih7 =>
      intro i f mo hi0 hi1 hf hm7 H locs w ls hl
      refine q_iload_n C hl dX1_wettest_7 rfl 3 rfl ?_
      refine q_aload_n C hl dX1_wettest_8 rfl 0 rfl ?_
      refine q_getS C w.1 (fun w h => List.mem_cons_of_mem _ (List.mem_append_right _ h)) 7 (by decide) (List.mem_of_getElem? (i := 1) rfl) rfl dX1_wettest_9 ?_
      refine q_icmp_ge (tgt := 40) C dX1_wettest_12 (by decide) ⟨by omega, by omega⟩ ⟨by omega, by omega⟩ (fun c1 => ?_) (fun c1 => ?_)
      · have c1 := c1
        refine q_iload_n C hl dX1_wettest_40 rfl 1 rfl ?_
        exact q_iret C w dX1_wettest_41 (by have t1 := wtt_1 σ; unfold wtu; rcases hf with ⟨z1, z2, z3⟩ | ⟨z1, z2, z3, z4⟩; (rw [if_pos (by omega)]; exact z2); (rw [if_neg (by omega), show σ 0 = i by omega]; exact z2)) rfl
      · have c1 := c1
        have hq := bE i (by omega) (by omega)
        refine q_aload_n C hl dX1_wettest_15 rfl 0 rfl ?_
        refine q_getS C w.1 (fun w h => List.mem_cons_of_mem _ (List.mem_append_right _ h)) 1 (by decide) (List.mem_of_getElem? (i := 2) rfl) rfl dX1_wettest_16 ?_
        refine q_iload_n C hl dX1_wettest_19 rfl 3 rfl ?_
        refine q_Sld C w.1 2 1 rfl ⟨by omega, by omega⟩ dX1_wettest_20 ?_
        refine q_iload_n C hl dX1_wettest_21 rfl 2 rfl ?_
        refine q_icmp_le (tgt := 34) C dX1_wettest_22 (by decide) ⟨by omega, by omega⟩ ⟨by omega, by omega⟩ (fun c2 => ?_) (fun c2 => ?_)
        · have c2 := c2
          refine q_iinc (lv' := [(3, .int (jj (i + 1))), (0, .ref h), (1, .int (jj f)), (2, .int (jj mo))]) C hl dX1_wettest_34 3 rfl (by decide) rfl (fun ls hl => ?_)
          refine q_goto (tgt := 7) C dX1_wettest_37 (by decide) ?_
          exact ih7 (i + 1) f mo (by omega) (by omega) (by have t1 := wtt_1 σ; rcases hf with ⟨z1, z2, z3⟩ | ⟨z1, z2, z3, z4⟩; (subst z1; first | (exfalso; omega) | exact Or.inr ⟨by omega, (show (0:Int) = wtt σ 1 from t1.symm), rfl, by omega, by omega, by omega, by omega⟩); (have ts := wtt_s σ (i := i) (by omega); rw [← z2, ← z3] at ts; refine Or.inr ⟨by omega, by (repeat' split at ts) <;> omega, by first | exact z3 | rfl, by omega, by omega, by omega, by omega⟩)) (by omega) _ _ w ls (lv_sub hl [1, 2, 3, 0] rfl)
        · have c2 := c2
          refine q_aload_n C hl dX1_wettest_25 rfl 0 rfl ?_
          refine q_getS C w.1 (fun w h => List.mem_cons_of_mem _ (List.mem_append_right _ h)) 1 (by decide) (List.mem_of_getElem? (i := 2) rfl) rfl dX1_wettest_26 ?_
          refine q_iload_n C hl dX1_wettest_29 rfl 3 rfl ?_
          refine q_Sld C w.1 2 1 rfl ⟨by omega, by omega⟩ dX1_wettest_30 ?_
          refine q_istore_n (lv' := [(2, .int (jj (σ (13 + 6 * i + 1)))), (0, .ref h), (1, .int (jj f)), (3, .int (jj i))]) C hl dX1_wettest_31 rfl (by decide) rfl (fun ls hl => ?_)
          refine q_iload_n C hl dX1_wettest_32 rfl 3 rfl ?_
          refine q_istore_n (lv' := [(1, .int (jj i)), (2, .int (jj (σ (13 + 6 * i + 1)))), (0, .ref h), (3, .int (jj i))]) C hl dX1_wettest_33 rfl (by decide) rfl (fun ls hl => ?_)
          refine q_iinc (lv' := [(3, .int (jj (i + 1))), (1, .int (jj i)), (2, .int (jj (σ (13 + 6 * i + 1)))), (0, .ref h)]) C hl dX1_wettest_34 3 rfl (by decide) rfl (fun ls hl => ?_)
          refine q_goto (tgt := 7) C dX1_wettest_37 (by decide) ?_
          exact ih7 (i + 1) i (σ (13 + 6 * i + 1)) (by omega) (by omega) (by have t1 := wtt_1 σ; rcases hf with ⟨z1, z2, z3⟩ | ⟨z1, z2, z3, z4⟩; (subst z1; first | (exfalso; omega) | exact Or.inr ⟨by omega, (show (0:Int) = wtt σ 1 from t1.symm), rfl, by omega, by omega, by omega, by omega⟩); (have ts := wtt_s σ (i := i) (by omega); rw [← z2, ← z3] at ts; refine Or.inr ⟨by omega, by (repeat' split at ts) <;> omega, by first | exact z3 | rfl, by omega, by omega, by omega, by omega⟩)) (by omega) _ _ w ls (lv_sub hl [3, 1, 2, 0] rfl)
  exact loop7 _ 0 (-5) (-1) (by omega) (by omega) (by omega) (Nat.lt_succ_self _) _ _ w ls (lv_sub hl [3, 2, 1, 0] rfl)
