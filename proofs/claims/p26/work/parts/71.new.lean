/-! The makers of State, Weather and the model. -/
def zS : List Value := [.null, .null, .null, .null, .null, .null, .null, .int (jj 0), .int (jj 0), .int (jj 0), .int (jj 0), .int (jj 0), .int (jj 0), .int (jj 0), .int (jj 0), .int (jj 0), .int (jj 0)]
def rX1_init : Room := { frames := 1, cells := 7, slots := 99, locals := 24 }
theorem fX1_init : Fn yX1_init wsX1_init rX1_init cX1_init 1 7 99 := ⟨⟨_, rfl⟩, rfl, rfl, by decide +kernel, by decide +kernel, by decide +kernel, rfl⟩
set_option maxHeartbeats 4000000 in
set_option maxRecDepth 10000 in
theorem kX1_init (l : Launch) (D : va_G) (cI cC cS : ClassId) (h : Nat) : Kn l yX1_init wsX1_init rX1_init D (tz cI cC cS) [.ref h] [(h, .inr (1, zS))] (fun ad : Nat → Nat => cSt cI h ad st0) 7 99 := by
  intro sz
  refine q_entry (y := yX1_init) (av := [.ref h]) (w0 := [(h, .inr (1, zS))]) (Qf := fun A => va_Qv (fun _ : Nat → Nat => True) (fun ad t => bW D (tz cI cC cS) A (cSt cI h ad st0) t) A) (cc := cX1_init) (nL := 1) (ret := none) (by decide) ⟨_, rfl⟩ (Nat.le_of_ble_eq_true rfl) ?_ sz
  intro A pr en s m args below meth c C hin0 w ls hl
  have hnm := hin0 rfl
  have w := w
  have hl : lv_has ls 1 [(0, .ref h)] := hl
  refine q_aload_n C hl dX1_init_0 rfl 0 rfl ?_
  refine q_objInit C hl (List.mem_of_getElem? (i := 1) rfl) (List.mem_of_getElem? (i := 2) rfl) (List.mem_of_getElem? (i := 3) rfl) (Nat.le_of_ble_eq_true rfl) (Nat.le_of_ble_eq_true rfl) (Nat.le_of_ble_eq_true rfl) dX1_init_1 ?_
  refine q_aload_n C hl dX1_init_4 rfl 0 rfl ?_
  refine q_bipush C dX1_init_5 (by decide) ?_
  refine q_newi (N := 16) C w (List.mem_of_getElem? (i := 4) rfl) rfl (by decide) (Nat.le_of_ble_eq_true rfl) (Nat.le_of_ble_eq_true rfl) dX1_init_7 (fun x0 H w => ?_)
  have w : Wd D A s [(h, .inr (1, [.null, .null, .null, .null, .null, .null, .null, .int (jj 0), .int (jj 0), .int (jj 0), .int (jj 0), .int (jj 0), .int (jj 0), .int (jj 0), .int (jj 0), .int (jj 0), .int (jj 0)])), (x0, .inl (cI, 16, .inl (ac (fun _ => 0))))] H _ := w
  refine q_putF (Cn := RX1) (T := TX1) (N := 17) (ci := 1) (ws' := [(h, .inr (1, [.ref x0, .null, .null, .null, .null, .null, .null, .int (jj 0), .int (jj 0), .int (jj 0), .int (jj 0), .int (jj 0), .int (jj 0), .int (jj 0), .int (jj 0), .int (jj 0), .int (jj 0)])), (x0, .inl (cI, 16, .inl (ac (fun _ => 0))))]) C hnm w (fun w h => List.mem_cons_of_mem _ (List.mem_append_right _ h)) tyX1 tyX1_ok nmX1 0 rfl rfl 0 (by decide) (List.mem_of_getElem? (i := 5) rfl) rfl rfl (tyX1_ok 0 (by decide)) rfl rfl (Nat.le_of_ble_eq_true rfl) dX1_init_9 rfl (fun H locs w => ?_)
  refine q_aload_n C hl dX1_init_12 rfl 0 rfl ?_
  refine q_bipush C dX1_init_13 (by decide) ?_
  refine q_newi (N := 16) C w (List.mem_of_getElem? (i := 4) rfl) rfl (by decide) (Nat.le_of_ble_eq_true rfl) (Nat.le_of_ble_eq_true rfl) dX1_init_15 (fun x1 H w => ?_)
  have w : Wd D A s [(h, .inr (1, [.ref x0, .null, .null, .null, .null, .null, .null, .int (jj 0), .int (jj 0), .int (jj 0), .int (jj 0), .int (jj 0), .int (jj 0), .int (jj 0), .int (jj 0), .int (jj 0), .int (jj 0)])), (x0, .inl (cI, 16, .inl (ac (fun _ => 0)))), (x1, .inl (cI, 16, .inl (ac (fun _ => 0))))] H _ := w
  refine q_putF (Cn := RX1) (T := TX1) (N := 17) (ci := 1) (ws' := [(h, .inr (1, [.ref x0, .ref x1, .null, .null, .null, .null, .null, .int (jj 0), .int (jj 0), .int (jj 0), .int (jj 0), .int (jj 0), .int (jj 0), .int (jj 0), .int (jj 0), .int (jj 0), .int (jj 0)])), (x0, .inl (cI, 16, .inl (ac (fun _ => 0)))), (x1, .inl (cI, 16, .inl (ac (fun _ => 0))))]) C hnm w (fun w h => List.mem_cons_of_mem _ (List.mem_append_right _ h)) tyX1 tyX1_ok nmX1 0 rfl rfl 1 (by decide) (List.mem_of_getElem? (i := 6) rfl) rfl rfl (tyX1_ok 1 (by decide)) rfl rfl (Nat.le_of_ble_eq_true rfl) dX1_init_17 rfl (fun H locs w => ?_)
  refine q_aload_n C hl dX1_init_20 rfl 0 rfl ?_
  refine q_bipush C dX1_init_21 (by decide) ?_
  refine q_newi (N := 16) C w (List.mem_of_getElem? (i := 4) rfl) rfl (by decide) (Nat.le_of_ble_eq_true rfl) (Nat.le_of_ble_eq_true rfl) dX1_init_23 (fun x2 H w => ?_)
  have w : Wd D A s [(h, .inr (1, [.ref x0, .ref x1, .null, .null, .null, .null, .null, .int (jj 0), .int (jj 0), .int (jj 0), .int (jj 0), .int (jj 0), .int (jj 0), .int (jj 0), .int (jj 0), .int (jj 0), .int (jj 0)])), (x0, .inl (cI, 16, .inl (ac (fun _ => 0)))), (x1, .inl (cI, 16, .inl (ac (fun _ => 0)))), (x2, .inl (cI, 16, .inl (ac (fun _ => 0))))] H _ := w
  refine q_putF (Cn := RX1) (T := TX1) (N := 17) (ci := 1) (ws' := [(h, .inr (1, [.ref x0, .ref x1, .ref x2, .null, .null, .null, .null, .int (jj 0), .int (jj 0), .int (jj 0), .int (jj 0), .int (jj 0), .int (jj 0), .int (jj 0), .int (jj 0), .int (jj 0), .int (jj 0)])), (x0, .inl (cI, 16, .inl (ac (fun _ => 0)))), (x1, .inl (cI, 16, .inl (ac (fun _ => 0)))), (x2, .inl (cI, 16, .inl (ac (fun _ => 0))))]) C hnm w (fun w h => List.mem_cons_of_mem _ (List.mem_append_right _ h)) tyX1 tyX1_ok nmX1 0 rfl rfl 2 (by decide) (List.mem_of_getElem? (i := 7) rfl) rfl rfl (tyX1_ok 2 (by decide)) rfl rfl (Nat.le_of_ble_eq_true rfl) dX1_init_25 rfl (fun H locs w => ?_)
  refine q_aload_n C hl dX1_init_28 rfl 0 rfl ?_
  refine q_bipush C dX1_init_29 (by decide) ?_
  refine q_newi (N := 16) C w (List.mem_of_getElem? (i := 4) rfl) rfl (by decide) (Nat.le_of_ble_eq_true rfl) (Nat.le_of_ble_eq_true rfl) dX1_init_31 (fun x3 H w => ?_)
  have w : Wd D A s [(h, .inr (1, [.ref x0, .ref x1, .ref x2, .null, .null, .null, .null, .int (jj 0), .int (jj 0), .int (jj 0), .int (jj 0), .int (jj 0), .int (jj 0), .int (jj 0), .int (jj 0), .int (jj 0), .int (jj 0)])), (x0, .inl (cI, 16, .inl (ac (fun _ => 0)))), (x1, .inl (cI, 16, .inl (ac (fun _ => 0)))), (x2, .inl (cI, 16, .inl (ac (fun _ => 0)))), (x3, .inl (cI, 16, .inl (ac (fun _ => 0))))] H _ := w
  refine q_putF (Cn := RX1) (T := TX1) (N := 17) (ci := 1) (ws' := [(h, .inr (1, [.ref x0, .ref x1, .ref x2, .ref x3, .null, .null, .null, .int (jj 0), .int (jj 0), .int (jj 0), .int (jj 0), .int (jj 0), .int (jj 0), .int (jj 0), .int (jj 0), .int (jj 0), .int (jj 0)])), (x0, .inl (cI, 16, .inl (ac (fun _ => 0)))), (x1, .inl (cI, 16, .inl (ac (fun _ => 0)))), (x2, .inl (cI, 16, .inl (ac (fun _ => 0)))), (x3, .inl (cI, 16, .inl (ac (fun _ => 0))))]) C hnm w (fun w h => List.mem_cons_of_mem _ (List.mem_append_right _ h)) tyX1 tyX1_ok nmX1 0 rfl rfl 3 (by decide) (List.mem_of_getElem? (i := 8) rfl) rfl rfl (tyX1_ok 3 (by decide)) rfl rfl (Nat.le_of_ble_eq_true rfl) dX1_init_33 rfl (fun H locs w => ?_)
  refine q_aload_n C hl dX1_init_36 rfl 0 rfl ?_
  refine q_bipush C dX1_init_37 (by decide) ?_
  refine q_newi (N := 16) C w (List.mem_of_getElem? (i := 4) rfl) rfl (by decide) (Nat.le_of_ble_eq_true rfl) (Nat.le_of_ble_eq_true rfl) dX1_init_39 (fun x4 H w => ?_)
  have w : Wd D A s [(h, .inr (1, [.ref x0, .ref x1, .ref x2, .ref x3, .null, .null, .null, .int (jj 0), .int (jj 0), .int (jj 0), .int (jj 0), .int (jj 0), .int (jj 0), .int (jj 0), .int (jj 0), .int (jj 0), .int (jj 0)])), (x0, .inl (cI, 16, .inl (ac (fun _ => 0)))), (x1, .inl (cI, 16, .inl (ac (fun _ => 0)))), (x2, .inl (cI, 16, .inl (ac (fun _ => 0)))), (x3, .inl (cI, 16, .inl (ac (fun _ => 0)))), (x4, .inl (cI, 16, .inl (ac (fun _ => 0))))] H _ := w
  refine q_putF (Cn := RX1) (T := TX1) (N := 17) (ci := 1) (ws' := [(h, .inr (1, [.ref x0, .ref x1, .ref x2, .ref x3, .ref x4, .null, .null, .int (jj 0), .int (jj 0), .int (jj 0), .int (jj 0), .int (jj 0), .int (jj 0), .int (jj 0), .int (jj 0), .int (jj 0), .int (jj 0)])), (x0, .inl (cI, 16, .inl (ac (fun _ => 0)))), (x1, .inl (cI, 16, .inl (ac (fun _ => 0)))), (x2, .inl (cI, 16, .inl (ac (fun _ => 0)))), (x3, .inl (cI, 16, .inl (ac (fun _ => 0)))), (x4, .inl (cI, 16, .inl (ac (fun _ => 0))))]) C hnm w (fun w h => List.mem_cons_of_mem _ (List.mem_append_right _ h)) tyX1 tyX1_ok nmX1 0 rfl rfl 4 (by decide) (List.mem_of_getElem? (i := 9) rfl) rfl rfl (tyX1_ok 4 (by decide)) rfl rfl (Nat.le_of_ble_eq_true rfl) dX1_init_41 rfl (fun H locs w => ?_)
  refine q_aload_n C hl dX1_init_44 rfl 0 rfl ?_
  refine q_bipush C dX1_init_45 (by decide) ?_
  refine q_newi (N := 16) C w (List.mem_of_getElem? (i := 4) rfl) rfl (by decide) (Nat.le_of_ble_eq_true rfl) (Nat.le_of_ble_eq_true rfl) dX1_init_47 (fun x5 H w => ?_)
  have w : Wd D A s [(h, .inr (1, [.ref x0, .ref x1, .ref x2, .ref x3, .ref x4, .null, .null, .int (jj 0), .int (jj 0), .int (jj 0), .int (jj 0), .int (jj 0), .int (jj 0), .int (jj 0), .int (jj 0), .int (jj 0), .int (jj 0)])), (x0, .inl (cI, 16, .inl (ac (fun _ => 0)))), (x1, .inl (cI, 16, .inl (ac (fun _ => 0)))), (x2, .inl (cI, 16, .inl (ac (fun _ => 0)))), (x3, .inl (cI, 16, .inl (ac (fun _ => 0)))), (x4, .inl (cI, 16, .inl (ac (fun _ => 0)))), (x5, .inl (cI, 16, .inl (ac (fun _ => 0))))] H _ := w
  refine q_putF (Cn := RX1) (T := TX1) (N := 17) (ci := 1) (ws' := [(h, .inr (1, [.ref x0, .ref x1, .ref x2, .ref x3, .ref x4, .ref x5, .null, .int (jj 0), .int (jj 0), .int (jj 0), .int (jj 0), .int (jj 0), .int (jj 0), .int (jj 0), .int (jj 0), .int (jj 0), .int (jj 0)])), (x0, .inl (cI, 16, .inl (ac (fun _ => 0)))), (x1, .inl (cI, 16, .inl (ac (fun _ => 0)))), (x2, .inl (cI, 16, .inl (ac (fun _ => 0)))), (x3, .inl (cI, 16, .inl (ac (fun _ => 0)))), (x4, .inl (cI, 16, .inl (ac (fun _ => 0)))), (x5, .inl (cI, 16, .inl (ac (fun _ => 0))))]) C hnm w (fun w h => List.mem_cons_of_mem _ (List.mem_append_right _ h)) tyX1 tyX1_ok nmX1 0 rfl rfl 5 (by decide) (List.mem_of_getElem? (i := 10) rfl) rfl rfl (tyX1_ok 5 (by decide)) rfl rfl (Nat.le_of_ble_eq_true rfl) dX1_init_49 rfl (fun H locs w => ?_)
  refine q_aload_n C hl dX1_init_52 rfl 0 rfl ?_
  refine q_iconst C dX1_init_53 ?_
  refine q_newi (N := 3) C w (List.mem_of_getElem? (i := 4) rfl) rfl (by decide) (Nat.le_of_ble_eq_true rfl) (Nat.le_of_ble_eq_true rfl) dX1_init_54 (fun x6 H w => ?_)
  have w : Wd D A s [(h, .inr (1, [.ref x0, .ref x1, .ref x2, .ref x3, .ref x4, .ref x5, .null, .int (jj 0), .int (jj 0), .int (jj 0), .int (jj 0), .int (jj 0), .int (jj 0), .int (jj 0), .int (jj 0), .int (jj 0), .int (jj 0)])), (x0, .inl (cI, 16, .inl (ac (fun _ => 0)))), (x1, .inl (cI, 16, .inl (ac (fun _ => 0)))), (x2, .inl (cI, 16, .inl (ac (fun _ => 0)))), (x3, .inl (cI, 16, .inl (ac (fun _ => 0)))), (x4, .inl (cI, 16, .inl (ac (fun _ => 0)))), (x5, .inl (cI, 16, .inl (ac (fun _ => 0)))), (x6, .inl (cI, 3, .inl (ac (fun _ => 0))))] H _ := w
  refine q_dup C dX1_init_56 rfl ?_
  refine q_iconst C dX1_init_57 ?_
  refine q_iconst C dX1_init_58 ?_
  refine q_iast (ws' := [(h, .inr (1, [.ref x0, .ref x1, .ref x2, .ref x3, .ref x4, .ref x5, .null, .int (jj 0), .int (jj 0), .int (jj 0), .int (jj 0), .int (jj 0), .int (jj 0), .int (jj 0), .int (jj 0), .int (jj 0), .int (jj 0)])), (x0, .inl (cI, 16, .inl (ac (fun _ => 0)))), (x1, .inl (cI, 16, .inl (ac (fun _ => 0)))), (x2, .inl (cI, 16, .inl (ac (fun _ => 0)))), (x3, .inl (cI, 16, .inl (ac (fun _ => 0)))), (x4, .inl (cI, 16, .inl (ac (fun _ => 0)))), (x5, .inl (cI, 16, .inl (ac (fun _ => 0)))), (x6, .inl (cI, 3, .inl (ac (up (fun _ => 0) 0 3))))]) (n := 3) (f := fun _ => 0) C w 7 0 rfl rfl ⟨by omega, by omega, by omega⟩ dX1_init_59 rfl (fun H locs w => ?_)
  refine q_dup C dX1_init_60 rfl ?_
  refine q_iconst C dX1_init_61 ?_
  refine q_iconst C dX1_init_62 ?_
  refine q_iast (ws' := [(h, .inr (1, [.ref x0, .ref x1, .ref x2, .ref x3, .ref x4, .ref x5, .null, .int (jj 0), .int (jj 0), .int (jj 0), .int (jj 0), .int (jj 0), .int (jj 0), .int (jj 0), .int (jj 0), .int (jj 0), .int (jj 0)])), (x0, .inl (cI, 16, .inl (ac (fun _ => 0)))), (x1, .inl (cI, 16, .inl (ac (fun _ => 0)))), (x2, .inl (cI, 16, .inl (ac (fun _ => 0)))), (x3, .inl (cI, 16, .inl (ac (fun _ => 0)))), (x4, .inl (cI, 16, .inl (ac (fun _ => 0)))), (x5, .inl (cI, 16, .inl (ac (fun _ => 0)))), (x6, .inl (cI, 3, .inl (ac (up (up (fun _ => 0) 0 3) 1 2))))]) (n := 3) (f := up (fun _ => 0) 0 3) C w 7 0 rfl rfl ⟨by omega, by omega, by omega⟩ dX1_init_63 rfl (fun H locs w => ?_)
  refine q_dup C dX1_init_64 rfl ?_
  refine q_iconst C dX1_init_65 ?_
  refine q_iconst C dX1_init_66 ?_
  refine q_iast (ws' := [(h, .inr (1, [.ref x0, .ref x1, .ref x2, .ref x3, .ref x4, .ref x5, .null, .int (jj 0), .int (jj 0), .int (jj 0), .int (jj 0), .int (jj 0), .int (jj 0), .int (jj 0), .int (jj 0), .int (jj 0), .int (jj 0)])), (x0, .inl (cI, 16, .inl (ac (fun _ => 0)))), (x1, .inl (cI, 16, .inl (ac (fun _ => 0)))), (x2, .inl (cI, 16, .inl (ac (fun _ => 0)))), (x3, .inl (cI, 16, .inl (ac (fun _ => 0)))), (x4, .inl (cI, 16, .inl (ac (fun _ => 0)))), (x5, .inl (cI, 16, .inl (ac (fun _ => 0)))), (x6, .inl (cI, 3, .inl (ac (up (up (up (fun _ => 0) 0 3) 1 2) 2 5))))]) (n := 3) (f := up (up (fun _ => 0) 0 3) 1 2) C w 7 0 rfl rfl ⟨by omega, by omega, by omega⟩ dX1_init_67 rfl (fun H locs w => ?_)
  refine q_putF (Cn := RX1) (T := TX1) (N := 17) (ci := 1) (ws' := [(h, .inr (1, [.ref x0, .ref x1, .ref x2, .ref x3, .ref x4, .ref x5, .ref x6, .int (jj 0), .int (jj 0), .int (jj 0), .int (jj 0), .int (jj 0), .int (jj 0), .int (jj 0), .int (jj 0), .int (jj 0), .int (jj 0)])), (x0, .inl (cI, 16, .inl (ac (fun _ => 0)))), (x1, .inl (cI, 16, .inl (ac (fun _ => 0)))), (x2, .inl (cI, 16, .inl (ac (fun _ => 0)))), (x3, .inl (cI, 16, .inl (ac (fun _ => 0)))), (x4, .inl (cI, 16, .inl (ac (fun _ => 0)))), (x5, .inl (cI, 16, .inl (ac (fun _ => 0)))), (x6, .inl (cI, 3, .inl (ac (up (up (up (fun _ => 0) 0 3) 1 2) 2 5))))]) C hnm w (fun w h => List.mem_cons_of_mem _ (List.mem_append_right _ h)) tyX1 tyX1_ok nmX1 0 rfl rfl 6 (by decide) (List.mem_of_getElem? (i := 11) rfl) rfl rfl (tyX1_ok 6 (by decide)) rfl rfl (Nat.le_of_ble_eq_true rfl) dX1_init_68 rfl (fun H locs w => ?_)
  exact q_vretU (adx x0 x1 x2 x3 x4 x5 x6) C (by show Wd D A s (cSt cI h (adx x0 x1 x2 x3 x4 x5 x6) st0) H locs; unfold cSt; rw [st0_r (k := 0) (by omega), st0_r (k := 1) (by omega), st0_r (k := 2) (by omega), st0_r (k := 3) (by omega), st0_r (k := 4) (by omega), st0_r (k := 5) (by omega), st0_s]; exact w) rfl rfl dX1_init_71
def zT : List Value := [.null, .int (jj 0), .null, .null, .null, .int (jj 0), .int (jj 0)]
def rX2_init : Room := { frames := 1, cells := 4, slots := 150, locals := 24 }
theorem fX2_init : Fn yX2_init wsX2_init rX2_init cX2_init 1 4 150 := ⟨⟨_, rfl⟩, rfl, rfl, by decide +kernel, by decide +kernel, by decide +kernel, rfl⟩
set_option maxHeartbeats 4000000 in
set_option maxRecDepth 10000 in
theorem kX2_init (l : Launch) (D : va_G) (cI cC cS : ClassId) (h : Nat) : Kn l yX2_init wsX2_init rX2_init D (tz cI cC cS) [.ref h] [(h, .inr (2, zT))] (fun ad : Nat → Nat => tW cI cC h ad (fun _ => 0) (fun _ => 0) (fun _ => 0) (fun _ => 0) (fun _ => 0)) 4 150 := by
  intro sz
  refine q_entry (y := yX2_init) (av := [.ref h]) (w0 := [(h, .inr (2, zT))]) (Qf := fun A => va_Qv (fun _ : Nat → Nat => True) (fun ad t => bW D (tz cI cC cS) A (tW cI cC h ad (fun _ => 0) (fun _ => 0) (fun _ => 0) (fun _ => 0) (fun _ => 0)) t) A) (cc := cX2_init) (nL := 1) (ret := none) (by decide) ⟨_, rfl⟩ (Nat.le_of_ble_eq_true rfl) ?_ sz
  intro A pr en s m args below meth c C hin0 w ls hl
  have hnm := hin0 rfl
  have w := w
  have hl : lv_has ls 1 [(0, .ref h)] := hl
  refine q_aload_n C hl dX2_init_0 rfl 0 rfl ?_
  refine q_objInit C hl (List.mem_of_getElem? (i := 1) rfl) (List.mem_of_getElem? (i := 2) rfl) (List.mem_of_getElem? (i := 3) rfl) (Nat.le_of_ble_eq_true rfl) (Nat.le_of_ble_eq_true rfl) (Nat.le_of_ble_eq_true rfl) dX2_init_1 ?_
  refine q_aload_n C hl dX2_init_4 rfl 0 rfl ?_
  refine q_bipush C dX2_init_5 (by decide) ?_
  refine q_newc (N := 60) C w (List.mem_of_getElem? (i := 4) rfl) rfl (by decide) (Nat.le_of_ble_eq_true rfl) (Nat.le_of_ble_eq_true rfl) dX2_init_7 (fun x0 H w => ?_)
  have w : Wd D A s [(h, .inr (2, [.null, .int (jj 0), .null, .null, .null, .int (jj 0), .int (jj 0)])), (x0, .inl (cC, 60, .inl (ac (fun _ => 0))))] H _ := w
  refine q_putF (Cn := RX2) (T := TX2) (N := 7) (ci := 2) (ws' := [(h, .inr (2, [.ref x0, .int (jj 0), .null, .null, .null, .int (jj 0), .int (jj 0)])), (x0, .inl (cC, 60, .inl (ac (fun _ => 0))))]) C hnm w (fun w h => List.mem_cons_of_mem _ (List.mem_append_right _ h)) tyX2 tyX2_ok nmX2 0 rfl rfl 0 (by decide) (List.mem_of_getElem? (i := 5) rfl) rfl rfl (tyX2_ok 0 (by decide)) rfl rfl (Nat.le_of_ble_eq_true rfl) dX2_init_9 rfl (fun H locs w => ?_)
  refine q_aload_n C hl dX2_init_12 rfl 0 rfl ?_
  refine q_bipush C dX2_init_13 (by decide) ?_
  refine q_newc (N := 30) C w (List.mem_of_getElem? (i := 4) rfl) rfl (by decide) (Nat.le_of_ble_eq_true rfl) (Nat.le_of_ble_eq_true rfl) dX2_init_15 (fun x1 H w => ?_)
  have w : Wd D A s [(h, .inr (2, [.ref x0, .int (jj 0), .null, .null, .null, .int (jj 0), .int (jj 0)])), (x0, .inl (cC, 60, .inl (ac (fun _ => 0)))), (x1, .inl (cC, 30, .inl (ac (fun _ => 0))))] H _ := w
  refine q_putF (Cn := RX2) (T := TX2) (N := 7) (ci := 2) (ws' := [(h, .inr (2, [.ref x0, .int (jj 0), .ref x1, .null, .null, .int (jj 0), .int (jj 0)])), (x0, .inl (cC, 60, .inl (ac (fun _ => 0)))), (x1, .inl (cC, 30, .inl (ac (fun _ => 0))))]) C hnm w (fun w h => List.mem_cons_of_mem _ (List.mem_append_right _ h)) tyX2 tyX2_ok nmX2 0 rfl rfl 2 (by decide) (List.mem_of_getElem? (i := 6) rfl) rfl rfl (tyX2_ok 2 (by decide)) rfl rfl (Nat.le_of_ble_eq_true rfl) dX2_init_17 rfl (fun H locs w => ?_)
  refine q_aload_n C hl dX2_init_20 rfl 0 rfl ?_
  refine q_bipush C dX2_init_21 (by decide) ?_
  refine q_newi (N := 30) C w (List.mem_of_getElem? (i := 7) rfl) rfl (by decide) (Nat.le_of_ble_eq_true rfl) (Nat.le_of_ble_eq_true rfl) dX2_init_23 (fun x2 H w => ?_)
  have w : Wd D A s [(h, .inr (2, [.ref x0, .int (jj 0), .ref x1, .null, .null, .int (jj 0), .int (jj 0)])), (x0, .inl (cC, 60, .inl (ac (fun _ => 0)))), (x1, .inl (cC, 30, .inl (ac (fun _ => 0)))), (x2, .inl (cI, 30, .inl (ac (fun _ => 0))))] H _ := w
  refine q_putF (Cn := RX2) (T := TX2) (N := 7) (ci := 2) (ws' := [(h, .inr (2, [.ref x0, .int (jj 0), .ref x1, .ref x2, .null, .int (jj 0), .int (jj 0)])), (x0, .inl (cC, 60, .inl (ac (fun _ => 0)))), (x1, .inl (cC, 30, .inl (ac (fun _ => 0)))), (x2, .inl (cI, 30, .inl (ac (fun _ => 0))))]) C hnm w (fun w h => List.mem_cons_of_mem _ (List.mem_append_right _ h)) tyX2 tyX2_ok nmX2 0 rfl rfl 3 (by decide) (List.mem_of_getElem? (i := 8) rfl) rfl rfl (tyX2_ok 3 (by decide)) rfl rfl (Nat.le_of_ble_eq_true rfl) dX2_init_25 rfl (fun H locs w => ?_)
  refine q_aload_n C hl dX2_init_28 rfl 0 rfl ?_
  refine q_bipush C dX2_init_29 (by decide) ?_
  refine q_newi (N := 30) C w (List.mem_of_getElem? (i := 7) rfl) rfl (by decide) (Nat.le_of_ble_eq_true rfl) (Nat.le_of_ble_eq_true rfl) dX2_init_31 (fun x3 H w => ?_)
  have w : Wd D A s [(h, .inr (2, [.ref x0, .int (jj 0), .ref x1, .ref x2, .null, .int (jj 0), .int (jj 0)])), (x0, .inl (cC, 60, .inl (ac (fun _ => 0)))), (x1, .inl (cC, 30, .inl (ac (fun _ => 0)))), (x2, .inl (cI, 30, .inl (ac (fun _ => 0)))), (x3, .inl (cI, 30, .inl (ac (fun _ => 0))))] H _ := w
  refine q_putF (Cn := RX2) (T := TX2) (N := 7) (ci := 2) (ws' := [(h, .inr (2, [.ref x0, .int (jj 0), .ref x1, .ref x2, .ref x3, .int (jj 0), .int (jj 0)])), (x0, .inl (cC, 60, .inl (ac (fun _ => 0)))), (x1, .inl (cC, 30, .inl (ac (fun _ => 0)))), (x2, .inl (cI, 30, .inl (ac (fun _ => 0)))), (x3, .inl (cI, 30, .inl (ac (fun _ => 0))))]) C hnm w (fun w h => List.mem_cons_of_mem _ (List.mem_append_right _ h)) tyX2 tyX2_ok nmX2 0 rfl rfl 4 (by decide) (List.mem_of_getElem? (i := 9) rfl) rfl rfl (tyX2_ok 4 (by decide)) rfl rfl (Nat.le_of_ble_eq_true rfl) dX2_init_33 rfl (fun H locs w => ?_)
  exact q_vretU (adx x0 0 x1 x2 x3 0 0) C w rfl rfl dX2_init_36
theorem st0_u : up (up (up (fun _ => 0) 10 3) 11 2) 12 5 = st0 := by
  funext k; by_cases a : k = 12
  · subst a; rfl
  by_cases b : k = 11
  · subst b; rfl
  by_cases c : k = 10
  · subst c; rfl
  simp [up, st0, a, b, c]
