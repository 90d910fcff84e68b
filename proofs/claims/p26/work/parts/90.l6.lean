def rL_act : Room := { frames := 8, cells := 2, slots := 32, locals := 200 }
theorem fL_act : Fj yL_act wsL_act rL_act cL_act 5 (some .int) 4 2 32 := ⟨⟨_, rfl⟩, rfl, rfl, by decide +kernel, by decide +kernel, by decide +kernel⟩
set_option maxHeartbeats 4000000 in
set_option maxRecDepth 10000 in
theorem kL_act (l : Launch) (D : va_G) (cI cC cS : ClassId) (h hn : Nat) (adn : Nat → Nat) (hsn : Nat) (ads : Nat → Nat) (hh har hw : Nat) (adw : Nat → Nat) (σ ς : Int → Int) (hs : Nat → Nat) (ha : Nat → Nat → Nat) (η : Nat → Int → Int) (dp : Int) (τ kd am sd q u : Int → Int) (ki a b : Int) (bJ : Jv σ) (bdp : 0 ≤ dp ∧ dp ≤ 4) (hk : 0 ≤ ki ∧ ki < 16) : Kj l yL_act wsL_act rL_act D (tz cI cC cS) [.ref h, .int (jj ki), .int (jj a), .int (jj b)] (uW cI cC cS h hn adn hsn ads hh har hw adw σ ς hs ha η dp τ kd am sd q u) (acU σ ki a b) (uW cI cC cS h hn adn hsn ads hh har hw adw (acV σ ki a b) ς (rcH (acU σ ki a b) dp hs) (rcH (acU σ ki a b) dp ha) (rcH (acU σ ki a b) dp (upN η dp.toNat σ)) (rcP (acU σ ki a b) dp) τ kd am sd q u) 2 32 := by
  have bY := bJ.1
  have hW := bY.1
  have hn2 := hW.2.1
  have hn_ := hW.1
  have g1 := lowv_b a (n := 300) (by omega)
  have g2 := lowv_b b (n := 40) (by omega)
  have g3 := lowv_b (shw b) (n := 7) (by omega)
  have g4 := lowv_b a (n := 4) (by omega)
  have g5 := lowv_b b (n := 20) (by omega)
  have g6 := lowv_b a (n := 9) (by omega)
  have g7 := lowv_b a (n := 60) (by omega)
  have g8_ := lowv_b b (n := 3) (by omega)
  have g9 := lowv_b a (n := σ 0 + 1) (by omega)
  refine q_entry (cc := cL_act) (nL := 5) (ret := (some .int)) (by decide) ⟨_, rfl⟩ (Nat.le_of_ble_eq_true rfl) ?_
  intro A pr en s m args below meth c C hin w ls hl
  have w := w
  have hl : lv_has ls 5 [(0, .ref h), (1, .int (jj ki)), (2, .int (jj a)), (3, .int (jj b))] := hl
  refine q_iload_n C hl dL_act_0 rfl 2 rfl ?_
  refine q_aload_n C hl dL_act_1 rfl 0 rfl ?_
  refine q_iconst C dL_act_2 ?_
  refine q_runi C w fr_all (q_V (As := [.int (jj 0)]) (rest := [.int (jj a)]) C w fr_all fX3_count gL_act_X3_count rfl ⟨Nat.le_of_ble_eq_true rfl, Nat.le_of_ble_eq_true rfl⟩ (kX3_count l D cI cC cS h hn adn hsn ads hh har hw adw σ ς hs ha η dp τ kd am sd q u 0 bY (by omega) _) (q0 := 0) rfl rfl rfl rfl hl (Nat.le_of_ble_eq_true rfl) dL_act_3 ⟨Nat.le_of_ble_eq_true rfl, Nat.le_of_ble_eq_true rfl⟩) (fun H locs w => ?_)
  rw [show (cnu σ dp (q 1) 0) = σ 0 from cnu_k (by omega) (by omega)]
  refine q_iconst C dL_act_6 ?_
  refine q_iadd C dL_act_7 ?_
  refine q_runi C w fr_nil (q_S (As := [.int (jj a), .int (jj ((σ 0) + 1))]) (rest := []) C w fr_nil fL_low gL_act_L_low ⟨Nat.le_of_ble_eq_true rfl, Nat.le_of_ble_eq_true rfl⟩ (kL_low l D cI cC cS a ((σ 0) + 1) ⟨by omega, by omega⟩ _) rfl rfl hl (Nat.le_of_ble_eq_true rfl) dL_act_8 ⟨Nat.le_of_ble_eq_true rfl, Nat.le_of_ble_eq_true rfl⟩) (fun H locs w => ?_)
  refine q_istore (lv' := [(4, .int (jj (lowv a ((σ 0) + 1)))), (0, .ref h), (1, .int (jj ki)), (2, .int (jj a)), (3, .int (jj b))]) C hl dL_act_11 (by decide) rfl (fun ls hl => ?_)
  refine q_iload_n C hl dL_act_13 rfl 2 rfl ?_
  by_cases c1 : ki = 0
  · refine q_tabIn (v := 0) (tgt := 80) C dL_act_14 c1 ⟨by omega, by omega⟩ (by decide) (by decide) rfl (by decide) ?_
    refine q_aload_n C hl dL_act_80 rfl 1 rfl ?_
    refine q_bipush C dL_act_81 (by decide) ?_
    refine q_iload_n C hl dL_act_83 rfl 3 rfl ?_
    refine q_sipush C dL_act_84 (by decide) ?_
    refine q_runi C w fr_nil (q_S (As := [.int (jj a), .int (jj 300)]) (rest := [.int (jj 8), .ref h]) C w fr_nil fL_low gL_act_L_low ⟨Nat.le_of_ble_eq_true rfl, Nat.le_of_ble_eq_true rfl⟩ (kL_low l D cI cC cS a 300 ⟨by omega, by omega⟩ _) rfl rfl hl (Nat.le_of_ble_eq_true rfl) dL_act_87 ⟨Nat.le_of_ble_eq_true rfl, Nat.le_of_ble_eq_true rfl⟩) (fun H locs w => ?_)
    refine q_iadd C dL_act_90 ?_
    refine q_iload_n C hl dL_act_91 rfl 4 rfl ?_
    refine q_bipush C dL_act_92 (by decide) ?_
    refine q_runi C w fr_nil (q_S (As := [.int (jj b), .int (jj 40)]) (rest := [.int (jj (8 + (lowv a 300))), .ref h]) C w fr_nil fL_low gL_act_L_low ⟨Nat.le_of_ble_eq_true rfl, Nat.le_of_ble_eq_true rfl⟩ (kL_low l D cI cC cS b 40 ⟨by omega, by omega⟩ _) rfl rfl hl (Nat.le_of_ble_eq_true rfl) dL_act_94 ⟨Nat.le_of_ble_eq_true rfl, Nat.le_of_ble_eq_true rfl⟩) (fun H locs w => ?_)
    refine q_iload_n C hl dL_act_97 rfl 4 rfl ?_
    refine q_bipush C dL_act_98 (by decide) ?_
    refine q_shw C dL_act_100 ?_
    refine q_bipush C dL_act_101 (by decide) ?_
    refine q_runi C w fr_nil (q_S (As := [.int (jj (shw b)), .int (jj 7)]) (rest := [.int (jj (lowv b 40)), .int (jj (8 + (lowv a 300))), .ref h]) C w fr_nil fL_low gL_act_L_low ⟨Nat.le_of_ble_eq_true rfl, Nat.le_of_ble_eq_true rfl⟩ (kL_low l D cI cC cS (shw b) 7 ⟨by omega, by omega⟩ _) rfl rfl hl (Nat.le_of_ble_eq_true rfl) dL_act_103 ⟨Nat.le_of_ble_eq_true rfl, Nat.le_of_ble_eq_true rfl⟩) (fun H locs w => ?_)
    refine q_runi C w fr_all (q_V (As := [.int (jj (8 + (lowv a 300))), .int (jj (lowv b 40)), .int (jj (lowv (shw b) 7))]) (rest := []) C w fr_all fX3_come gL_act_X3_come rfl ⟨Nat.le_of_ble_eq_true rfl, Nat.le_of_ble_eq_true rfl⟩ (kX3_come l D cI cC cS h hn adn hsn ads hh har hw adw σ ς hs ha η dp τ kd am sd q u (8 + (lowv a 300)) (lowv b 40) (lowv (shw b) 7) bY (by omega) (by omega) (by omega) (by omega) (comu_b bY _ _ _) _) (q0 := 0) rfl rfl rfl rfl hl (Nat.le_of_ble_eq_true rfl) dL_act_106 ⟨Nat.le_of_ble_eq_true rfl, Nat.le_of_ble_eq_true rfl⟩) (fun H locs w => ?_)
    have e1 : acU σ ki a b = comu σ (8 + (lowv a 300)) (lowv b 40) (lowv (shw b) 7) := (by unfold acU; (repeat' split) <;> first | omega | rfl)
    have e2 : acV σ ki a b = comW σ (8 + (lowv a 300)) (lowv b 40) (lowv (shw b) 7) := (by unfold acV; (repeat' split) <;> first | omega | rfl)
    exact q_iretj C w (Nat.le_of_ble_eq_true rfl) (Nat.le_of_ble_eq_true rfl) dL_act_109 e1.symm (by rw [e1, e2])
  by_cases c2 : ki = 1
  · refine q_tabIn (v := 1) (tgt := 80) C dL_act_14 c2 ⟨by omega, by omega⟩ (by decide) (by decide) rfl (by decide) ?_
    refine q_aload_n C hl dL_act_80 rfl 1 rfl ?_
    refine q_bipush C dL_act_81 (by decide) ?_
    refine q_iload_n C hl dL_act_83 rfl 3 rfl ?_
    refine q_sipush C dL_act_84 (by decide) ?_
    refine q_runi C w fr_nil (q_S (As := [.int (jj a), .int (jj 300)]) (rest := [.int (jj 8), .ref h]) C w fr_nil fL_low gL_act_L_low ⟨Nat.le_of_ble_eq_true rfl, Nat.le_of_ble_eq_true rfl⟩ (kL_low l D cI cC cS a 300 ⟨by omega, by omega⟩ _) rfl rfl hl (Nat.le_of_ble_eq_true rfl) dL_act_87 ⟨Nat.le_of_ble_eq_true rfl, Nat.le_of_ble_eq_true rfl⟩) (fun H locs w => ?_)
    refine q_iadd C dL_act_90 ?_
    refine q_iload_n C hl dL_act_91 rfl 4 rfl ?_
    refine q_bipush C dL_act_92 (by decide) ?_
    refine q_runi C w fr_nil (q_S (As := [.int (jj b), .int (jj 40)]) (rest := [.int (jj (8 + (lowv a 300))), .ref h]) C w fr_nil fL_low gL_act_L_low ⟨Nat.le_of_ble_eq_true rfl, Nat.le_of_ble_eq_true rfl⟩ (kL_low l D cI cC cS b 40 ⟨by omega, by omega⟩ _) rfl rfl hl (Nat.le_of_ble_eq_true rfl) dL_act_94 ⟨Nat.le_of_ble_eq_true rfl, Nat.le_of_ble_eq_true rfl⟩) (fun H locs w => ?_)
    refine q_iload_n C hl dL_act_97 rfl 4 rfl ?_
    refine q_bipush C dL_act_98 (by decide) ?_
    refine q_shw C dL_act_100 ?_
    refine q_bipush C dL_act_101 (by decide) ?_
    refine q_runi C w fr_nil (q_S (As := [.int (jj (shw b)), .int (jj 7)]) (rest := [.int (jj (lowv b 40)), .int (jj (8 + (lowv a 300))), .ref h]) C w fr_nil fL_low gL_act_L_low ⟨Nat.le_of_ble_eq_true rfl, Nat.le_of_ble_eq_true rfl⟩ (kL_low l D cI cC cS (shw b) 7 ⟨by omega, by omega⟩ _) rfl rfl hl (Nat.le_of_ble_eq_true rfl) dL_act_103 ⟨Nat.le_of_ble_eq_true rfl, Nat.le_of_ble_eq_true rfl⟩) (fun H locs w => ?_)
    refine q_runi C w fr_all (q_V (As := [.int (jj (8 + (lowv a 300))), .int (jj (lowv b 40)), .int (jj (lowv (shw b) 7))]) (rest := []) C w fr_all fX3_come gL_act_X3_come rfl ⟨Nat.le_of_ble_eq_true rfl, Nat.le_of_ble_eq_true rfl⟩ (kX3_come l D cI cC cS h hn adn hsn ads hh har hw adw σ ς hs ha η dp τ kd am sd q u (8 + (lowv a 300)) (lowv b 40) (lowv (shw b) 7) bY (by omega) (by omega) (by omega) (by omega) (comu_b bY _ _ _) _) (q0 := 0) rfl rfl rfl rfl hl (Nat.le_of_ble_eq_true rfl) dL_act_106 ⟨Nat.le_of_ble_eq_true rfl, Nat.le_of_ble_eq_true rfl⟩) (fun H locs w => ?_)
    have e1 : acU σ ki a b = comu σ (8 + (lowv a 300)) (lowv b 40) (lowv (shw b) 7) := (by unfold acU; (repeat' split) <;> first | omega | rfl)
    have e2 : acV σ ki a b = comW σ (8 + (lowv a 300)) (lowv b 40) (lowv (shw b) 7) := (by unfold acV; (repeat' split) <;> first | omega | rfl)
    exact q_iretj C w (Nat.le_of_ble_eq_true rfl) (Nat.le_of_ble_eq_true rfl) dL_act_109 e1.symm (by rw [e1, e2])
  by_cases c3 : ki = 2
  · refine q_tabIn (v := 2) (tgt := 80) C dL_act_14 c3 ⟨by omega, by omega⟩ (by decide) (by decide) rfl (by decide) ?_
    refine q_aload_n C hl dL_act_80 rfl 1 rfl ?_
    refine q_bipush C dL_act_81 (by decide) ?_
    refine q_iload_n C hl dL_act_83 rfl 3 rfl ?_
    refine q_sipush C dL_act_84 (by decide) ?_
    refine q_runi C w fr_nil (q_S (As := [.int (jj a), .int (jj 300)]) (rest := [.int (jj 8), .ref h]) C w fr_nil fL_low gL_act_L_low ⟨Nat.le_of_ble_eq_true rfl, Nat.le_of_ble_eq_true rfl⟩ (kL_low l D cI cC cS a 300 ⟨by omega, by omega⟩ _) rfl rfl hl (Nat.le_of_ble_eq_true rfl) dL_act_87 ⟨Nat.le_of_ble_eq_true rfl, Nat.le_of_ble_eq_true rfl⟩) (fun H locs w => ?_)
    refine q_iadd C dL_act_90 ?_
    refine q_iload_n C hl dL_act_91 rfl 4 rfl ?_
    refine q_bipush C dL_act_92 (by decide) ?_
    refine q_runi C w fr_nil (q_S (As := [.int (jj b), .int (jj 40)]) (rest := [.int (jj (8 + (lowv a 300))), .ref h]) C w fr_nil fL_low gL_act_L_low ⟨Nat.le_of_ble_eq_true rfl, Nat.le_of_ble_eq_true rfl⟩ (kL_low l D cI cC cS b 40 ⟨by omega, by omega⟩ _) rfl rfl hl (Nat.le_of_ble_eq_true rfl) dL_act_94 ⟨Nat.le_of_ble_eq_true rfl, Nat.le_of_ble_eq_true rfl⟩) (fun H locs w => ?_)
    refine q_iload_n C hl dL_act_97 rfl 4 rfl ?_
    refine q_bipush C dL_act_98 (by decide) ?_
    refine q_shw C dL_act_100 ?_
    refine q_bipush C dL_act_101 (by decide) ?_
    refine q_runi C w fr_nil (q_S (As := [.int (jj (shw b)), .int (jj 7)]) (rest := [.int (jj (lowv b 40)), .int (jj (8 + (lowv a 300))), .ref h]) C w fr_nil fL_low gL_act_L_low ⟨Nat.le_of_ble_eq_true rfl, Nat.le_of_ble_eq_true rfl⟩ (kL_low l D cI cC cS (shw b) 7 ⟨by omega, by omega⟩ _) rfl rfl hl (Nat.le_of_ble_eq_true rfl) dL_act_103 ⟨Nat.le_of_ble_eq_true rfl, Nat.le_of_ble_eq_true rfl⟩) (fun H locs w => ?_)
    refine q_runi C w fr_all (q_V (As := [.int (jj (8 + (lowv a 300))), .int (jj (lowv b 40)), .int (jj (lowv (shw b) 7))]) (rest := []) C w fr_all fX3_come gL_act_X3_come rfl ⟨Nat.le_of_ble_eq_true rfl, Nat.le_of_ble_eq_true rfl⟩ (kX3_come l D cI cC cS h hn adn hsn ads hh har hw adw σ ς hs ha η dp τ kd am sd q u (8 + (lowv a 300)) (lowv b 40) (lowv (shw b) 7) bY (by omega) (by omega) (by omega) (by omega) (comu_b bY _ _ _) _) (q0 := 0) rfl rfl rfl rfl hl (Nat.le_of_ble_eq_true rfl) dL_act_106 ⟨Nat.le_of_ble_eq_true rfl, Nat.le_of_ble_eq_true rfl⟩) (fun H locs w => ?_)
    have e1 : acU σ ki a b = comu σ (8 + (lowv a 300)) (lowv b 40) (lowv (shw b) 7) := (by unfold acU; (repeat' split) <;> first | omega | rfl)
    have e2 : acV σ ki a b = comW σ (8 + (lowv a 300)) (lowv b 40) (lowv (shw b) 7) := (by unfold acV; (repeat' split) <;> first | omega | rfl)
    exact q_iretj C w (Nat.le_of_ble_eq_true rfl) (Nat.le_of_ble_eq_true rfl) dL_act_109 e1.symm (by rw [e1, e2])
  by_cases c4 : ki = 3
  · refine q_tabIn (v := 3) (tgt := 80) C dL_act_14 c4 ⟨by omega, by omega⟩ (by decide) (by decide) rfl (by decide) ?_
    refine q_aload_n C hl dL_act_80 rfl 1 rfl ?_
    refine q_bipush C dL_act_81 (by decide) ?_
    refine q_iload_n C hl dL_act_83 rfl 3 rfl ?_
    refine q_sipush C dL_act_84 (by decide) ?_
    refine q_runi C w fr_nil (q_S (As := [.int (jj a), .int (jj 300)]) (rest := [.int (jj 8), .ref h]) C w fr_nil fL_low gL_act_L_low ⟨Nat.le_of_ble_eq_true rfl, Nat.le_of_ble_eq_true rfl⟩ (kL_low l D cI cC cS a 300 ⟨by omega, by omega⟩ _) rfl rfl hl (Nat.le_of_ble_eq_true rfl) dL_act_87 ⟨Nat.le_of_ble_eq_true rfl, Nat.le_of_ble_eq_true rfl⟩) (fun H locs w => ?_)
    refine q_iadd C dL_act_90 ?_
    refine q_iload_n C hl dL_act_91 rfl 4 rfl ?_
    refine q_bipush C dL_act_92 (by decide) ?_
    refine q_runi C w fr_nil (q_S (As := [.int (jj b), .int (jj 40)]) (rest := [.int (jj (8 + (lowv a 300))), .ref h]) C w fr_nil fL_low gL_act_L_low ⟨Nat.le_of_ble_eq_true rfl, Nat.le_of_ble_eq_true rfl⟩ (kL_low l D cI cC cS b 40 ⟨by omega, by omega⟩ _) rfl rfl hl (Nat.le_of_ble_eq_true rfl) dL_act_94 ⟨Nat.le_of_ble_eq_true rfl, Nat.le_of_ble_eq_true rfl⟩) (fun H locs w => ?_)
    refine q_iload_n C hl dL_act_97 rfl 4 rfl ?_
    refine q_bipush C dL_act_98 (by decide) ?_
    refine q_shw C dL_act_100 ?_
    refine q_bipush C dL_act_101 (by decide) ?_
    refine q_runi C w fr_nil (q_S (As := [.int (jj (shw b)), .int (jj 7)]) (rest := [.int (jj (lowv b 40)), .int (jj (8 + (lowv a 300))), .ref h]) C w fr_nil fL_low gL_act_L_low ⟨Nat.le_of_ble_eq_true rfl, Nat.le_of_ble_eq_true rfl⟩ (kL_low l D cI cC cS (shw b) 7 ⟨by omega, by omega⟩ _) rfl rfl hl (Nat.le_of_ble_eq_true rfl) dL_act_103 ⟨Nat.le_of_ble_eq_true rfl, Nat.le_of_ble_eq_true rfl⟩) (fun H locs w => ?_)
    refine q_runi C w fr_all (q_V (As := [.int (jj (8 + (lowv a 300))), .int (jj (lowv b 40)), .int (jj (lowv (shw b) 7))]) (rest := []) C w fr_all fX3_come gL_act_X3_come rfl ⟨Nat.le_of_ble_eq_true rfl, Nat.le_of_ble_eq_true rfl⟩ (kX3_come l D cI cC cS h hn adn hsn ads hh har hw adw σ ς hs ha η dp τ kd am sd q u (8 + (lowv a 300)) (lowv b 40) (lowv (shw b) 7) bY (by omega) (by omega) (by omega) (by omega) (comu_b bY _ _ _) _) (q0 := 0) rfl rfl rfl rfl hl (Nat.le_of_ble_eq_true rfl) dL_act_106 ⟨Nat.le_of_ble_eq_true rfl, Nat.le_of_ble_eq_true rfl⟩) (fun H locs w => ?_)
    have e1 : acU σ ki a b = comu σ (8 + (lowv a 300)) (lowv b 40) (lowv (shw b) 7) := (by unfold acU; (repeat' split) <;> first | omega | rfl)
    have e2 : acV σ ki a b = comW σ (8 + (lowv a 300)) (lowv b 40) (lowv (shw b) 7) := (by unfold acV; (repeat' split) <;> first | omega | rfl)
    exact q_iretj C w (Nat.le_of_ble_eq_true rfl) (Nat.le_of_ble_eq_true rfl) dL_act_109 e1.symm (by rw [e1, e2])
  by_cases c5 : ki = 4
  · refine q_tabIn (v := 4) (tgt := 80) C dL_act_14 c5 ⟨by omega, by omega⟩ (by decide) (by decide) rfl (by decide) ?_
    refine q_aload_n C hl dL_act_80 rfl 1 rfl ?_
    refine q_bipush C dL_act_81 (by decide) ?_
    refine q_iload_n C hl dL_act_83 rfl 3 rfl ?_
    refine q_sipush C dL_act_84 (by decide) ?_
    refine q_runi C w fr_nil (q_S (As := [.int (jj a), .int (jj 300)]) (rest := [.int (jj 8), .ref h]) C w fr_nil fL_low gL_act_L_low ⟨Nat.le_of_ble_eq_true rfl, Nat.le_of_ble_eq_true rfl⟩ (kL_low l D cI cC cS a 300 ⟨by omega, by omega⟩ _) rfl rfl hl (Nat.le_of_ble_eq_true rfl) dL_act_87 ⟨Nat.le_of_ble_eq_true rfl, Nat.le_of_ble_eq_true rfl⟩) (fun H locs w => ?_)
    refine q_iadd C dL_act_90 ?_
    refine q_iload_n C hl dL_act_91 rfl 4 rfl ?_
    refine q_bipush C dL_act_92 (by decide) ?_
    refine q_runi C w fr_nil (q_S (As := [.int (jj b), .int (jj 40)]) (rest := [.int (jj (8 + (lowv a 300))), .ref h]) C w fr_nil fL_low gL_act_L_low ⟨Nat.le_of_ble_eq_true rfl, Nat.le_of_ble_eq_true rfl⟩ (kL_low l D cI cC cS b 40 ⟨by omega, by omega⟩ _) rfl rfl hl (Nat.le_of_ble_eq_true rfl) dL_act_94 ⟨Nat.le_of_ble_eq_true rfl, Nat.le_of_ble_eq_true rfl⟩) (fun H locs w => ?_)
    refine q_iload_n C hl dL_act_97 rfl 4 rfl ?_
    refine q_bipush C dL_act_98 (by decide) ?_
    refine q_shw C dL_act_100 ?_
    refine q_bipush C dL_act_101 (by decide) ?_
    refine q_runi C w fr_nil (q_S (As := [.int (jj (shw b)), .int (jj 7)]) (rest := [.int (jj (lowv b 40)), .int (jj (8 + (lowv a 300))), .ref h]) C w fr_nil fL_low gL_act_L_low ⟨Nat.le_of_ble_eq_true rfl, Nat.le_of_ble_eq_true rfl⟩ (kL_low l D cI cC cS (shw b) 7 ⟨by omega, by omega⟩ _) rfl rfl hl (Nat.le_of_ble_eq_true rfl) dL_act_103 ⟨Nat.le_of_ble_eq_true rfl, Nat.le_of_ble_eq_true rfl⟩) (fun H locs w => ?_)
    refine q_runi C w fr_all (q_V (As := [.int (jj (8 + (lowv a 300))), .int (jj (lowv b 40)), .int (jj (lowv (shw b) 7))]) (rest := []) C w fr_all fX3_come gL_act_X3_come rfl ⟨Nat.le_of_ble_eq_true rfl, Nat.le_of_ble_eq_true rfl⟩ (kX3_come l D cI cC cS h hn adn hsn ads hh har hw adw σ ς hs ha η dp τ kd am sd q u (8 + (lowv a 300)) (lowv b 40) (lowv (shw b) 7) bY (by omega) (by omega) (by omega) (by omega) (comu_b bY _ _ _) _) (q0 := 0) rfl rfl rfl rfl hl (Nat.le_of_ble_eq_true rfl) dL_act_106 ⟨Nat.le_of_ble_eq_true rfl, Nat.le_of_ble_eq_true rfl⟩) (fun H locs w => ?_)
    have e1 : acU σ ki a b = comu σ (8 + (lowv a 300)) (lowv b 40) (lowv (shw b) 7) := (by unfold acU; (repeat' split) <;> first | omega | rfl)
    have e2 : acV σ ki a b = comW σ (8 + (lowv a 300)) (lowv b 40) (lowv (shw b) 7) := (by unfold acV; (repeat' split) <;> first | omega | rfl)
    exact q_iretj C w (Nat.le_of_ble_eq_true rfl) (Nat.le_of_ble_eq_true rfl) dL_act_109 e1.symm (by rw [e1, e2])
  by_cases c6 : ki = 5
  · refine q_tabIn (v := 5) (tgt := 110) C dL_act_14 c6 ⟨by omega, by omega⟩ (by decide) (by decide) rfl (by decide) ?_
    refine q_aload_n C hl dL_act_110 rfl 1 rfl ?_
    refine q_iload C hl dL_act_111 0 rfl ?_
    refine q_runi C w fr_all (q_V (As := [.int (jj (lowv a ((σ 0) + 1)))]) (rest := []) C w fr_all fX3_leave gL_act_X3_leave rfl ⟨Nat.le_of_ble_eq_true rfl, Nat.le_of_ble_eq_true rfl⟩ (kX3_leave l D cI cC cS h hn adn hsn ads hh har hw adw σ ς hs ha η dp τ kd am sd q u (lowv a ((σ 0) + 1)) bY (by omega) (by omega) (levu_b bY _) _) (q0 := 0) rfl rfl rfl rfl hl (Nat.le_of_ble_eq_true rfl) dL_act_113 ⟨Nat.le_of_ble_eq_true rfl, Nat.le_of_ble_eq_true rfl⟩) (fun H locs w => ?_)
    have e1 : acU σ ki a b = levu σ (lowv a ((σ 0) + 1)) := (by unfold acU; (repeat' split) <;> first | omega | rfl)
    have e2 : acV σ ki a b = levW σ (lowv a ((σ 0) + 1)) := (by unfold acV; (repeat' split) <;> first | omega | rfl)
    exact q_iretj C w (Nat.le_of_ble_eq_true rfl) (Nat.le_of_ble_eq_true rfl) dL_act_116 e1.symm (by rw [e1, e2])
  by_cases c7 : ki = 6
  · refine q_tabIn (v := 6) (tgt := 117) C dL_act_14 c7 ⟨by omega, by omega⟩ (by decide) (by decide) rfl (by decide) ?_
    refine q_aload_n C hl dL_act_117 rfl 1 rfl ?_
    refine q_iload C hl dL_act_118 0 rfl ?_
    refine q_runi C w fr_all (q_V (As := [.int (jj (lowv a ((σ 0) + 1)))]) (rest := []) C w fr_all fX3_letAhead gL_act_X3_letAhead rfl ⟨Nat.le_of_ble_eq_true rfl, Nat.le_of_ble_eq_true rfl⟩ (kX3_letAhead l D cI cC cS h hn adn hsn ads hh har hw adw σ ς hs ha η dp τ kd am sd q u (lowv a ((σ 0) + 1)) bY (by omega) (by omega) (ltu_b bY _) _) (q0 := 0) rfl rfl rfl rfl hl (Nat.le_of_ble_eq_true rfl) dL_act_120 ⟨Nat.le_of_ble_eq_true rfl, Nat.le_of_ble_eq_true rfl⟩) (fun H locs w => ?_)
    have e1 : acU σ ki a b = ltu σ (lowv a ((σ 0) + 1)) := (by unfold acU; (repeat' split) <;> first | omega | rfl)
    have e2 : acV σ ki a b = ltv σ (lowv a ((σ 0) + 1)) := (by unfold acV; (repeat' split) <;> first | omega | rfl)
    exact q_iretj C w (Nat.le_of_ble_eq_true rfl) (Nat.le_of_ble_eq_true rfl) dL_act_123 e1.symm (by rw [e1, e2])
  by_cases c8 : ki = 7
  · refine q_tabIn (v := 7) (tgt := 124) C dL_act_14 c8 ⟨by omega, by omega⟩ (by decide) (by decide) rfl (by decide) ?_
    refine q_aload_n C hl dL_act_124 rfl 1 rfl ?_
    refine q_iload C hl dL_act_125 0 rfl ?_
    refine q_runi C w fr_all (q_V (As := [.int (jj (lowv a ((σ 0) + 1)))]) (rest := []) C w fr_all fX3_swap gL_act_X3_swap rfl ⟨Nat.le_of_ble_eq_true rfl, Nat.le_of_ble_eq_true rfl⟩ (kX3_swap l D cI cC cS h hn adn hsn ads hh har hw adw σ ς hs ha η dp τ kd am sd q u (lowv a ((σ 0) + 1)) bY (by omega) (by omega) ⟨(swu_b bY _).1, (swu_b bY _).2.1⟩ _) (q0 := 0) rfl rfl rfl rfl hl (Nat.le_of_ble_eq_true rfl) dL_act_127 ⟨Nat.le_of_ble_eq_true rfl, Nat.le_of_ble_eq_true rfl⟩) (fun H locs w => ?_)
    have e1 : acU σ ki a b = swu σ (lowv a ((σ 0) + 1)) := (by unfold acU; (repeat' split) <;> first | omega | rfl)
    have e2 : acV σ ki a b = swv σ (lowv a ((σ 0) + 1)) := (by unfold acV; (repeat' split) <;> first | omega | rfl)
    exact q_iretj C w (Nat.le_of_ble_eq_true rfl) (Nat.le_of_ble_eq_true rfl) dL_act_130 e1.symm (by rw [e1, e2])
  by_cases c9 : ki = 8
  · refine q_tabIn (v := 8) (tgt := 124) C dL_act_14 c9 ⟨by omega, by omega⟩ (by decide) (by decide) rfl (by decide) ?_
    refine q_aload_n C hl dL_act_124 rfl 1 rfl ?_
    refine q_iload C hl dL_act_125 0 rfl ?_
    refine q_runi C w fr_all (q_V (As := [.int (jj (lowv a ((σ 0) + 1)))]) (rest := []) C w fr_all fX3_swap gL_act_X3_swap rfl ⟨Nat.le_of_ble_eq_true rfl, Nat.le_of_ble_eq_true rfl⟩ (kX3_swap l D cI cC cS h hn adn hsn ads hh har hw adw σ ς hs ha η dp τ kd am sd q u (lowv a ((σ 0) + 1)) bY (by omega) (by omega) ⟨(swu_b bY _).1, (swu_b bY _).2.1⟩ _) (q0 := 0) rfl rfl rfl rfl hl (Nat.le_of_ble_eq_true rfl) dL_act_127 ⟨Nat.le_of_ble_eq_true rfl, Nat.le_of_ble_eq_true rfl⟩) (fun H locs w => ?_)
    have e1 : acU σ ki a b = swu σ (lowv a ((σ 0) + 1)) := (by unfold acU; (repeat' split) <;> first | omega | rfl)
    have e2 : acV σ ki a b = swv σ (lowv a ((σ 0) + 1)) := (by unfold acV; (repeat' split) <;> first | omega | rfl)
    exact q_iretj C w (Nat.le_of_ble_eq_true rfl) (Nat.le_of_ble_eq_true rfl) dL_act_130 e1.symm (by rw [e1, e2])
  by_cases c10 : ki = 9
  · refine q_tabIn (v := 9) (tgt := 124) C dL_act_14 c10 ⟨by omega, by omega⟩ (by decide) (by decide) rfl (by decide) ?_
    refine q_aload_n C hl dL_act_124 rfl 1 rfl ?_
    refine q_iload C hl dL_act_125 0 rfl ?_
    refine q_runi C w fr_all (q_V (As := [.int (jj (lowv a ((σ 0) + 1)))]) (rest := []) C w fr_all fX3_swap gL_act_X3_swap rfl ⟨Nat.le_of_ble_eq_true rfl, Nat.le_of_ble_eq_true rfl⟩ (kX3_swap l D cI cC cS h hn adn hsn ads hh har hw adw σ ς hs ha η dp τ kd am sd q u (lowv a ((σ 0) + 1)) bY (by omega) (by omega) ⟨(swu_b bY _).1, (swu_b bY _).2.1⟩ _) (q0 := 0) rfl rfl rfl rfl hl (Nat.le_of_ble_eq_true rfl) dL_act_127 ⟨Nat.le_of_ble_eq_true rfl, Nat.le_of_ble_eq_true rfl⟩) (fun H locs w => ?_)
    have e1 : acU σ ki a b = swu σ (lowv a ((σ 0) + 1)) := (by unfold acU; (repeat' split) <;> first | omega | rfl)
    have e2 : acV σ ki a b = swv σ (lowv a ((σ 0) + 1)) := (by unfold acV; (repeat' split) <;> first | omega | rfl)
    exact q_iretj C w (Nat.le_of_ble_eq_true rfl) (Nat.le_of_ble_eq_true rfl) dL_act_130 e1.symm (by rw [e1, e2])
  by_cases c11 : ki = 10
  · refine q_tabIn (v := 10) (tgt := 131) C dL_act_14 c11 ⟨by omega, by omega⟩ (by decide) (by decide) rfl (by decide) ?_
    refine q_aload_n C hl dL_act_131 rfl 1 rfl ?_
    refine q_iload_n C hl dL_act_132 rfl 3 rfl ?_
    refine q_iconst C dL_act_133 ?_
    refine q_runi C w fr_nil (q_S (As := [.int (jj a), .int (jj 4)]) (rest := [.ref h]) C w fr_nil fL_low gL_act_L_low ⟨Nat.le_of_ble_eq_true rfl, Nat.le_of_ble_eq_true rfl⟩ (kL_low l D cI cC cS a 4 ⟨by omega, by omega⟩ _) rfl rfl hl (Nat.le_of_ble_eq_true rfl) dL_act_134 ⟨Nat.le_of_ble_eq_true rfl, Nat.le_of_ble_eq_true rfl⟩) (fun H locs w => ?_)
    refine q_iload_n C hl dL_act_137 rfl 4 rfl ?_
    refine q_bipush C dL_act_138 (by decide) ?_
    refine q_runi C w fr_nil (q_S (As := [.int (jj b), .int (jj 20)]) (rest := [.int (jj (lowv a 4)), .ref h]) C w fr_nil fL_low gL_act_L_low ⟨Nat.le_of_ble_eq_true rfl, Nat.le_of_ble_eq_true rfl⟩ (kL_low l D cI cC cS b 20 ⟨by omega, by omega⟩ _) rfl rfl hl (Nat.le_of_ble_eq_true rfl) dL_act_140 ⟨Nat.le_of_ble_eq_true rfl, Nat.le_of_ble_eq_true rfl⟩) (fun H locs w => ?_)
    refine q_runi C w fr_all (q_V (As := [.int (jj (lowv a 4)), .int (jj (lowv b 20))]) (rest := []) C w fr_all fX3_set gL_act_X3_set rfl ⟨Nat.le_of_ble_eq_true rfl, Nat.le_of_ble_eq_true rfl⟩ (kX3_set l D cI cC cS h hn adn hsn ads hh har hw adw σ ς hs ha η dp τ kd am sd q u (lowv a 4) (lowv b 20) bY (by omega) (by omega) (by omega) (setu_b bY _ _) _) (q0 := 0) rfl rfl rfl rfl hl (Nat.le_of_ble_eq_true rfl) dL_act_143 ⟨Nat.le_of_ble_eq_true rfl, Nat.le_of_ble_eq_true rfl⟩) (fun H locs w => ?_)
    have e1 : acU σ ki a b = setu σ (lowv a 4) (lowv b 20) := (by unfold acU; (repeat' split) <;> first | omega | rfl)
    have e2 : acV σ ki a b = setv σ (lowv a 4) (lowv b 20) := (by unfold acV; (repeat' split) <;> first | omega | rfl)
    exact q_iretj C w (Nat.le_of_ble_eq_true rfl) (Nat.le_of_ble_eq_true rfl) dL_act_146 e1.symm (by rw [e1, e2])
  by_cases c12 : ki = 11
  · refine q_tabIn (v := 11) (tgt := 147) C dL_act_14 c12 ⟨by omega, by omega⟩ (by decide) (by decide) rfl (by decide) ?_
    refine q_aload_n C hl dL_act_147 rfl 1 rfl ?_
    refine q_runi C w fr_all (q_V (As := []) (rest := []) C w fr_all fX3_serve gL_act_X3_serve rfl ⟨Nat.le_of_ble_eq_true rfl, Nat.le_of_ble_eq_true rfl⟩ (kX3_serve l D cI cC cS h hn adn hsn ads hh har hw adw σ ς hs ha η dp τ kd am sd q u  bY (by omega) ⟨(seu_b bY).1, (seu_b bY).2.1⟩ _) (q0 := 0) rfl rfl rfl rfl hl (Nat.le_of_ble_eq_true rfl) dL_act_148 ⟨Nat.le_of_ble_eq_true rfl, Nat.le_of_ble_eq_true rfl⟩) (fun H locs w => ?_)
    have e1 : acU σ ki a b = seu σ := (by unfold acU; (repeat' split) <;> first | omega | rfl)
    have e2 : acV σ ki a b = sevW σ := (by unfold acV; (repeat' split) <;> first | omega | rfl)
    exact q_iretj C w (Nat.le_of_ble_eq_true rfl) (Nat.le_of_ble_eq_true rfl) dL_act_151 e1.symm (by rw [e1, e2])
  by_cases c13 : ki = 12
  · refine q_tabIn (v := 12) (tgt := 152) C dL_act_14 c13 ⟨by omega, by omega⟩ (by decide) (by decide) rfl (by decide) ?_
    refine q_aload_n C hl dL_act_152 rfl 1 rfl ?_
    refine q_iload_n C hl dL_act_153 rfl 3 rfl ?_
    refine q_bipush C dL_act_154 (by decide) ?_
    refine q_runi C w fr_nil (q_S (As := [.int (jj a), .int (jj 9)]) (rest := [.ref h]) C w fr_nil fL_low gL_act_L_low ⟨Nat.le_of_ble_eq_true rfl, Nat.le_of_ble_eq_true rfl⟩ (kL_low l D cI cC cS a 9 ⟨by omega, by omega⟩ _) rfl rfl hl (Nat.le_of_ble_eq_true rfl) dL_act_156 ⟨Nat.le_of_ble_eq_true rfl, Nat.le_of_ble_eq_true rfl⟩) (fun H locs w => ?_)
    refine q_runi C w fr_all (q_V (As := [.int (jj (lowv a 9))]) (rest := []) C w fr_all fX3_pass gL_act_X3_pass rfl ⟨Nat.le_of_ble_eq_true rfl, Nat.le_of_ble_eq_true rfl⟩ (kX3_pass l D cI cC cS h hn adn hsn ads hh har hw adw σ ς hs ha η dp τ kd am sd q u (lowv a 9) bY (by omega) (by omega) ⟨(pu2_b bY _).1, (pu2_b bY _).2.1⟩ _) (q0 := 0) rfl rfl rfl rfl hl (Nat.le_of_ble_eq_true rfl) dL_act_159 ⟨Nat.le_of_ble_eq_true rfl, Nat.le_of_ble_eq_true rfl⟩) (fun H locs w => ?_)
    have e1 : acU σ ki a b = pu2 σ (lowv a 9) := (by unfold acU; (repeat' split) <;> first | omega | rfl)
    have e2 : acV σ ki a b = pvW σ (lowv a 9) := (by unfold acV; (repeat' split) <;> first | omega | rfl)
    exact q_iretj C w (Nat.le_of_ble_eq_true rfl) (Nat.le_of_ble_eq_true rfl) dL_act_162 e1.symm (by rw [e1, e2])
  refine q_tabOut (tgt := 163) C dL_act_14 ⟨by omega, by omega⟩ (by omega) (by decide) ?_
  refine q_aload_n C hl dL_act_163 rfl 1 rfl ?_
  refine q_iconst C dL_act_164 ?_
  refine q_iload_n C hl dL_act_165 rfl 3 rfl ?_
  refine q_bipush C dL_act_166 (by decide) ?_
  refine q_runi C w fr_nil (q_S (As := [.int (jj a), .int (jj 60)]) (rest := [.int (jj 1), .ref h]) C w fr_nil fL_low gL_act_L_low ⟨Nat.le_of_ble_eq_true rfl, Nat.le_of_ble_eq_true rfl⟩ (kL_low l D cI cC cS a 60 ⟨by omega, by omega⟩ _) rfl rfl hl (Nat.le_of_ble_eq_true rfl) dL_act_168 ⟨Nat.le_of_ble_eq_true rfl, Nat.le_of_ble_eq_true rfl⟩) (fun H locs w => ?_)
  refine q_iadd C dL_act_171 ?_
  refine q_iload_n C hl dL_act_172 rfl 4 rfl ?_
  refine q_iconst C dL_act_173 ?_
  refine q_runi C w fr_nil (q_S (As := [.int (jj b), .int (jj 3)]) (rest := [.int (jj (1 + (lowv a 60))), .ref h]) C w fr_nil fL_low gL_act_L_low ⟨Nat.le_of_ble_eq_true rfl, Nat.le_of_ble_eq_true rfl⟩ (kL_low l D cI cC cS b 3 ⟨by omega, by omega⟩ _) rfl rfl hl (Nat.le_of_ble_eq_true rfl) dL_act_174 ⟨Nat.le_of_ble_eq_true rfl, Nat.le_of_ble_eq_true rfl⟩) (fun H locs w => ?_)
  refine q_runj C w fr_all (q_Sj (As := [.ref h, .int (jj (1 + (lowv a 60))), .int (jj (lowv b 3))]) (rest := []) C w fr_all fL_gust gL_act_L_gust ⟨Nat.le_of_ble_eq_true rfl, Nat.le_of_ble_eq_true rfl⟩ (kL_gust l D cI cC cS h hn adn hsn ads hh har hw adw σ ς hs ha η dp τ kd am sd q u (1 + (lowv a 60)) (lowv b 3) bJ (by omega) ⟨⟨by omega, by omega⟩, ⟨by omega, by omega⟩⟩ _) rfl rfl hl (Nat.le_of_ble_eq_true rfl) dL_act_177 ⟨Nat.le_of_ble_eq_true rfl, Nat.le_of_ble_eq_true rfl⟩) (fun H locs w => ?_)
  have e1 : acU σ ki a b = guA σ (1 + (lowv a 60)) (lowv b 3) := (by unfold acU; (repeat' split) <;> first | omega | rfl)
  have e2 : acV σ ki a b = guW σ (1 + (lowv a 60)) (lowv b 3) := (by unfold acV; (repeat' split) <;> first | omega | rfl)
  exact q_iretj C w (Nat.le_of_ble_eq_true rfl) (Nat.le_of_ble_eq_true rfl) dL_act_180 e1.symm (by rw [e1, e2])
