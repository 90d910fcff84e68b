/-! The law: a round. -/
set_option maxHeartbeats 8000000 in
set_option maxRecDepth 10000 in
theorem law_round {pr : Program} {l : Launch} {en : Env} {s : State} {m : MethodId} {args : Array Value} {below : List Frame} {meth : Method} {c : Code} {cells slots : Nat} {Q : State → Prop} {D : va_G} {cI cC cS : ClassId} {b L h hn : Nat} {adn : Nat → Nat} {hsn : Nat} {ads : Nat → Nat} {hh har hw : Nat} {adw : Nat → Nat} {σ ς : Int → Int} {hs : Nat → Nat} {ha : Nat → Nat → Nat} {η : Nat → Int → Int} {dp : Int} {τ kd am sd q u : Int → Int} {xs : Nat → Int32} {k tn fa : Int} {H : Heap} {locs : List Loc} {ls : Array Slot} (C : Cx pr s m args meth c cL_law 12 RL wsL_law D (tz cI cC cS) (fun a => s.heap.size ≤ a) ret) (hX : va_X b L xs s s.heap) (hbl : b < s.heap.size) (hL : L ≤ 260) (hcs : cells ≤ room_1.cells ∧ slots ≤ room_1.slots) (hcs2 : cells + 2 ≤ room_1.cells ∧ slots + 32 ≤ room_1.slots) (hk : 0 ≤ k ∧ k < tn ∧ tn ≤ 34 ∧ 3 * tn ≤ L) (bJ : Jv σ) (bdp : 0 ≤ dp ∧ dp ≤ 4) (hfa : fa = σ 5 + σ 6) (hl : lv_has ls 12 [(5, .int (jj k)), (4, .int (jj tn)), (3, .int (jj fa)), (2, .int (jj 1)), (1, .ref h), (0, .ref b)]) (w : Wd D (fun a => s.heap.size ≤ a) s (uW cI cC cS h hn adn hsn ads hh har hw adw σ ς hs ha η dp τ kd am sd q u) H locs) (kk : ∀ (H : Heap) (locs : List Loc) (ls : Array Slot) (fa' : Int) (σ' : Int → Int) (hs' : Nat → Nat) (ha' : Nat → Nat → Nat) (η' : Nat → Int → Int) (dp' : Int), Jv σ' → (0 ≤ dp' ∧ dp' ≤ 4) → fa' = σ' 5 + σ' 6 → Wd D (fun a => s.heap.size ≤ a) s (uW cI cC cS h hn adn hsn ads hh har hw adw σ' ς hs' ha' η' dp' τ kd am sd q u) H locs → lv_has ls 12 [(5, .int (jj (k + 1))), (4, .int (jj tn)), (3, .int (jj fa')), (2, .int (jj 1)), (1, .ref h), (0, .ref b)] → W pr l en room_1 s m args below meth c H locs (cells + 2) (slots + 32) Q (F0 m 65 ls [])) : W pr l en room_1 s m args below meth c H locs cells slots Q (F0 m 72 ls []) := by
  refine q_iload_n C hl dL_law_72 rfl 3 rfl ?_
  refine q_if_eq (tgt := 325) C dL_law_73 (by decide) ⟨by omega, by omega⟩ (fun z => absurd z (by omega)) (fun _ => ?_)
  refine q_aload_n C hl dL_law_76 rfl 5 rfl ?_
  refine q_iconst C dL_law_77 ?_
  refine q_iload C hl dL_law_78 0 rfl ?_
  refine q_imul C dL_law_80 ?_
  refine q_cell (rest := []) (j := 3 * k) C w hX hbl hL ⟨by omega, by omega⟩ hl (Nat.le_of_ble_eq_true rfl) ⟨Nat.le_of_ble_eq_true rfl, Nat.le_of_ble_eq_true rfl⟩ dL_law_81 hcs (fun H locs w => ?_)
  refine q_bipush C dL_law_84 (by decide) ?_
  refine q_runi C w fr_nil (q_S (As := [.int (jj (Xs xs (3 * k))), .int (jj 16)]) (rest := []) C w fr_nil fL_low gL_law_L_low ⟨Nat.le_of_ble_eq_true rfl, Nat.le_of_ble_eq_true rfl⟩ (kL_low l D cI cC cS (Xs xs (3 * k)) 16 ⟨by omega, by omega⟩ _) rfl rfl hl (Nat.le_of_ble_eq_true rfl) dL_law_86 hcs) (fun H locs w => ?_)
  refine q_istore (lv' := [(6, .int (jj (lowv (Xs xs (3 * k)) 16))), (5, .int (jj k)), (4, .int (jj tn)), (3, .int (jj fa)), (2, .int (jj 1)), (1, .ref h), (0, .ref b)]) C hl dL_law_89 (by decide) rfl (fun ls hl => ?_)
  refine q_aload_n C hl dL_law_91 rfl 5 rfl ?_
  refine q_bipush C dL_law_92 (by decide) ?_
  refine q_runi C w fr_all (q_V (As := [.int (jj 16)]) (rest := []) C w fr_all fX3_count gL_law_X3_count rfl ⟨Nat.le_of_ble_eq_true rfl, Nat.le_of_ble_eq_true rfl⟩ (kX3_count l D cI cC cS h hn adn hsn ads hh har hw adw σ ς hs ha η dp τ kd am sd q u 16 bJ.1 (by omega) _) (q0 := 0) rfl rfl rfl rfl hl (Nat.le_of_ble_eq_true rfl) dL_law_94 hcs) (fun H locs w => ?_)
  rw [show (cnu σ dp (q 1) 16) = dp from cnu_16 _ _ _]
  refine q_istore (lv' := [(7, .int (jj dp)), (6, .int (jj (lowv (Xs xs (3 * k)) 16))), (5, .int (jj k)), (4, .int (jj tn)), (3, .int (jj fa)), (2, .int (jj 1)), (1, .ref h), (0, .ref b)]) C hl dL_law_97 (by decide) rfl (fun ls hl => ?_)
  refine q_aload_n C hl dL_law_99 rfl 6 rfl ?_
  refine q_iconst C dL_law_100 ?_
  refine q_runi C w fr_all (q_V (As := [.int (jj 4)]) (rest := []) C w fr_all fX3_count gL_law_X3_count rfl ⟨Nat.le_of_ble_eq_true rfl, Nat.le_of_ble_eq_true rfl⟩ (kX3_count l D cI cC cS h hn adn hsn ads hh har hw adw σ ς hs ha η dp τ kd am sd q u 4 bJ.1 (by omega) _) (q0 := 0) rfl rfl rfl rfl hl (Nat.le_of_ble_eq_true rfl) dL_law_101 hcs) (fun H locs w => ?_)
  rw [show (cnu σ dp (q 1) 4) = σ 4 from cnu_k (by omega) (by omega)]
  refine q_istore (lv' := [(8, .int (jj (σ 4))), (7, .int (jj dp)), (6, .int (jj (lowv (Xs xs (3 * k)) 16))), (5, .int (jj k)), (4, .int (jj tn)), (3, .int (jj fa)), (2, .int (jj 1)), (1, .ref h), (0, .ref b)]) C hl dL_law_104 (by decide) rfl (fun ls hl => ?_)
  refine q_aload_n C hl dL_law_106 rfl 7 rfl ?_
  refine q_iconst C dL_law_107 ?_
  refine q_runi C w fr_all (q_V (As := [.int (jj 1)]) (rest := []) C w fr_all fX3_payer gL_law_X3_payer rfl ⟨Nat.le_of_ble_eq_true rfl, Nat.le_of_ble_eq_true rfl⟩ (kX3_payer l D cI cC cS h hn adn hsn ads hh har hw adw σ ς hs ha η dp τ kd am sd q u 1 bJ.1 (by omega) _) (q0 := 0) rfl rfl rfl rfl hl (Nat.le_of_ble_eq_true rfl) dL_law_108 hcs) (fun H locs w => ?_)
  refine q_istore (lv' := [(9, .int (jj (pyu σ 1))), (8, .int (jj (σ 4))), (7, .int (jj dp)), (6, .int (jj (lowv (Xs xs (3 * k)) 16))), (5, .int (jj k)), (4, .int (jj tn)), (3, .int (jj fa)), (2, .int (jj 1)), (1, .ref h), (0, .ref b)]) C hl dL_law_111 (by decide) rfl (fun ls hl => ?_)
  refine q_aload_n C hl dL_law_113 rfl 8 rfl ?_
  refine q_bipush C dL_law_114 (by decide) ?_
  refine q_runi C w fr_all (q_V (As := [.int (jj 15)]) (rest := []) C w fr_all fX3_count gL_law_X3_count rfl ⟨Nat.le_of_ble_eq_true rfl, Nat.le_of_ble_eq_true rfl⟩ (kX3_count l D cI cC cS h hn adn hsn ads hh har hw adw σ ς hs ha η dp τ kd am sd q u 15 bJ.1 (by omega) _) (q0 := 0) rfl rfl rfl rfl hl (Nat.le_of_ble_eq_true rfl) dL_law_116 hcs) (fun H locs w => ?_)
  rw [show (cnu σ dp (q 1) 15) = σ 12 from cnu_15 _ _ _]
  refine q_istore (lv' := [(10, .int (jj (σ 12))), (9, .int (jj (pyu σ 1))), (8, .int (jj (σ 4))), (7, .int (jj dp)), (6, .int (jj (lowv (Xs xs (3 * k)) 16))), (5, .int (jj k)), (4, .int (jj tn)), (3, .int (jj fa)), (2, .int (jj 1)), (1, .ref h), (0, .ref b)]) C hl dL_law_119 (by decide) rfl (fun ls hl => ?_)
  have hkd := lowv_b (Xs xs (3 * k)) (n := 16) (by omega)
  have hub := acU_b bJ.1 (lowv (Xs xs (3 * k)) 16) (Xs xs (3 * k + 1)) (Xs xs (3 * k + 2))
  obtain ⟨hJ2, hF2⟩ := acV_J bJ (lowv (Xs xs (3 * k)) 16) (Xs xs (3 * k + 1)) (Xs xs (3 * k + 2))
  have hdp2 := rcP_b (v := acU σ (lowv (Xs xs (3 * k)) 16) (Xs xs (3 * k + 1)) (Xs xs (3 * k + 2))) bdp
  have hfa2 : fa + ((acV σ (lowv (Xs xs (3 * k)) 16) (Xs xs (3 * k + 1)) (Xs xs (3 * k + 2))) 4 - σ 4) * σ 12 = (acV σ (lowv (Xs xs (3 * k)) 16) (Xs xs (3 * k + 1)) (Xs xs (3 * k + 2))) 5 + (acV σ (lowv (Xs xs (3 * k)) 16) (Xs xs (3 * k + 1)) (Xs xs (3 * k + 2))) 6 := (by have := hF2; unfold Far at this; omega)
  refine q_aload_n C hl dL_law_121 rfl 9 rfl ?_
  refine q_iload C hl dL_law_122 4 rfl ?_
  refine q_aload_n C hl dL_law_124 rfl 10 rfl ?_
  refine q_iconst C dL_law_125 ?_
  refine q_iload C hl dL_law_126 5 rfl ?_
  refine q_imul C dL_law_128 ?_
  refine q_iconst C dL_law_129 ?_
  refine q_iadd C dL_law_130 ?_
  refine q_cell (rest := [.int (jj (lowv (Xs xs (3 * k)) 16)), .ref h]) (j := (3 * k) + 1) C w hX hbl hL ⟨by omega, by omega⟩ hl (Nat.le_of_ble_eq_true rfl) ⟨Nat.le_of_ble_eq_true rfl, Nat.le_of_ble_eq_true rfl⟩ dL_law_131 hcs (fun H locs w => ?_)
  refine q_aload_n C hl dL_law_134 rfl 10 rfl ?_
  refine q_iconst C dL_law_135 ?_
  refine q_iload C hl dL_law_136 5 rfl ?_
  refine q_imul C dL_law_138 ?_
  refine q_iconst C dL_law_139 ?_
  refine q_iadd C dL_law_140 ?_
  refine q_cell (rest := [.int (jj (Xs xs ((3 * k) + 1))), .int (jj (lowv (Xs xs (3 * k)) 16)), .ref h]) (j := (3 * k) + 2) C w hX hbl hL ⟨by omega, by omega⟩ hl (Nat.le_of_ble_eq_true rfl) ⟨Nat.le_of_ble_eq_true rfl, Nat.le_of_ble_eq_true rfl⟩ dL_law_141 hcs (fun H locs w => ?_)
  refine q_runj C w fr_all (q_Sj (As := [.ref h, .int (jj (lowv (Xs xs (3 * k)) 16)), .int (jj (Xs xs ((3 * k) + 1))), .int (jj (Xs xs ((3 * k) + 2)))]) (rest := []) C w fr_all fL_act gL_law_L_act ⟨Nat.le_of_ble_eq_true rfl, Nat.le_of_ble_eq_true rfl⟩ (kL_act l D cI cC cS h hn adn hsn ads hh har hw adw σ ς hs ha η dp τ kd am sd q u (lowv (Xs xs (3 * k)) 16) (Xs xs ((3 * k) + 1)) (Xs xs ((3 * k) + 2)) bJ bdp hkd _) rfl rfl hl (Nat.le_of_ble_eq_true rfl) dL_law_144 hcs2) (fun H locs w => ?_)
  refine q_istore (lv' := [(11, .int (jj (acU σ (lowv (Xs xs (3 * k)) 16) (Xs xs ((3 * k) + 1)) (Xs xs ((3 * k) + 2))))), (10, .int (jj (σ 12))), (9, .int (jj (pyu σ 1))), (8, .int (jj (σ 4))), (7, .int (jj dp)), (6, .int (jj (lowv (Xs xs (3 * k)) 16))), (5, .int (jj k)), (4, .int (jj tn)), (3, .int (jj fa)), (2, .int (jj 1)), (1, .ref h), (0, .ref b)]) C hl dL_law_147 (by decide) rfl (fun ls hl => ?_)
  refine q_iload_n C hl dL_law_149 rfl 8 rfl ?_
  refine q_aload_n C hl dL_law_150 rfl 10 rfl ?_
  refine q_iconst C dL_law_151 ?_
  refine q_runi C w fr_all (q_V (As := [.int (jj 4)]) (rest := [.int (jj fa)]) C w fr_all fX3_count gL_law_X3_count rfl ⟨Nat.le_of_ble_eq_true rfl, Nat.le_of_ble_eq_true rfl⟩ (kX3_count l D cI cC cS h hn adn hsn ads hh har hw adw (acV σ (lowv (Xs xs (3 * k)) 16) (Xs xs ((3 * k) + 1)) (Xs xs ((3 * k) + 2))) ς (rcH (acU σ (lowv (Xs xs (3 * k)) 16) (Xs xs ((3 * k) + 1)) (Xs xs ((3 * k) + 2))) dp hs) (rcH (acU σ (lowv (Xs xs (3 * k)) 16) (Xs xs ((3 * k) + 1)) (Xs xs ((3 * k) + 2))) dp ha) (rcH (acU σ (lowv (Xs xs (3 * k)) 16) (Xs xs ((3 * k) + 1)) (Xs xs ((3 * k) + 2))) dp (upN η dp.toNat σ)) (rcP (acU σ (lowv (Xs xs (3 * k)) 16) (Xs xs ((3 * k) + 1)) (Xs xs ((3 * k) + 2))) dp) τ kd am sd q u 4 hJ2.1 (by omega) _) (q0 := 0) rfl rfl rfl rfl hl (Nat.le_of_ble_eq_true rfl) dL_law_152 hcs2) (fun H locs w => ?_)
  rw [show (cnu (acV σ (lowv (Xs xs (3 * k)) 16) (Xs xs ((3 * k) + 1)) (Xs xs ((3 * k) + 2))) (rcP (acU σ (lowv (Xs xs (3 * k)) 16) (Xs xs ((3 * k) + 1)) (Xs xs ((3 * k) + 2))) dp) (q 1) 4) = (acV σ (lowv (Xs xs (3 * k)) 16) (Xs xs (3 * k + 1)) (Xs xs (3 * k + 2))) 4 from cnu_k (by omega) (by omega)]
  refine q_iload C hl dL_law_155 3 rfl ?_
  refine q_isub C dL_law_157 ?_
  refine q_iload C hl dL_law_158 1 rfl ?_
  refine q_imul C dL_law_160 ?_
  refine q_iadd C dL_law_161 ?_
  refine q_istore_n (lv' := [(3, .int (jj (fa + ((((acV σ (lowv (Xs xs (3 * k)) 16) (Xs xs (3 * k + 1)) (Xs xs (3 * k + 2))) 4) - (σ 4)) * (σ 12))))), (11, .int (jj (acU σ (lowv (Xs xs (3 * k)) 16) (Xs xs ((3 * k) + 1)) (Xs xs ((3 * k) + 2))))), (10, .int (jj (σ 12))), (9, .int (jj (pyu σ 1))), (8, .int (jj (σ 4))), (7, .int (jj dp)), (6, .int (jj (lowv (Xs xs (3 * k)) 16))), (5, .int (jj k)), (4, .int (jj tn)), (2, .int (jj 1)), (1, .ref h), (0, .ref b)]) C hl dL_law_162 rfl (by decide) rfl (fun ls hl => ?_)
  refine q_iload C hl dL_law_163 1 rfl ?_
  refine q_bipush C dL_law_165 (by decide) ?_
  refine q_icmp_eq (tgt := 252) C dL_law_167 (by decide) ⟨by omega, by omega⟩ ⟨by omega, by omega⟩ (fun c2 => ?_) (fun c2 => ?_)
  · exact absurd c2 (by omega)
  · have c2 := c2
    have join203 :   ∀ (H : Heap) (locs : List Loc), Wd D (fun a => s.heap.size ≤ a) s (uW cI cC cS h hn adn hsn ads hh har hw adw (acV σ (lowv (Xs xs (3 * k)) 16) (Xs xs ((3 * k) + 1)) (Xs xs ((3 * k) + 2))) ς (rcH (acU σ (lowv (Xs xs (3 * k)) 16) (Xs xs ((3 * k) + 1)) (Xs xs ((3 * k) + 2))) dp hs) (rcH (acU σ (lowv (Xs xs (3 * k)) 16) (Xs xs ((3 * k) + 1)) (Xs xs ((3 * k) + 2))) dp ha) (rcH (acU σ (lowv (Xs xs (3 * k)) 16) (Xs xs ((3 * k) + 1)) (Xs xs ((3 * k) + 2))) dp (upN η dp.toNat σ)) (rcP (acU σ (lowv (Xs xs (3 * k)) 16) (Xs xs ((3 * k) + 1)) (Xs xs ((3 * k) + 2))) dp) τ kd am sd q u) H locs → ∀ ls : Array Slot, lv_has ls 12 [(0, .ref b), (1, .ref h), (2, .int (jj 1)), (3, .int (jj (fa + ((((acV σ (lowv (Xs xs (3 * k)) 16) (Xs xs (3 * k + 1)) (Xs xs (3 * k + 2))) 4) - (σ 4)) * (σ 12))))), (4, .int (jj tn)), (5, .int (jj k)), (6, .int (jj (lowv (Xs xs (3 * k)) 16))), (7, .int (jj dp)), (8, .int (jj (σ 4))), (9, .int (jj (pyu σ 1))), (10, .int (jj (σ 12))), (11, .int (jj (acU σ (lowv (Xs xs (3 * k)) 16) (Xs xs ((3 * k) + 1)) (Xs xs ((3 * k) + 2)))))] → W pr l en room_1 s m args below meth c H locs (cells + 2) (slots + 32) Q (F0 m 203 ls []) := by
      intro   H locs w ls hl
      have join217 :   ∀ (H : Heap) (locs : List Loc), Wd D (fun a => s.heap.size ≤ a) s (uW cI cC cS h hn adn hsn ads hh har hw adw (acV σ (lowv (Xs xs (3 * k)) 16) (Xs xs ((3 * k) + 1)) (Xs xs ((3 * k) + 2))) ς (rcH (acU σ (lowv (Xs xs (3 * k)) 16) (Xs xs ((3 * k) + 1)) (Xs xs ((3 * k) + 2))) dp hs) (rcH (acU σ (lowv (Xs xs (3 * k)) 16) (Xs xs ((3 * k) + 1)) (Xs xs ((3 * k) + 2))) dp ha) (rcH (acU σ (lowv (Xs xs (3 * k)) 16) (Xs xs ((3 * k) + 1)) (Xs xs ((3 * k) + 2))) dp (upN η dp.toNat σ)) (rcP (acU σ (lowv (Xs xs (3 * k)) 16) (Xs xs ((3 * k) + 1)) (Xs xs ((3 * k) + 2))) dp) τ kd am sd q u) H locs → ∀ ls : Array Slot, lv_has ls 12 [(0, .ref b), (1, .ref h), (2, .int (jj 1)), (3, .int (jj (fa + ((((acV σ (lowv (Xs xs (3 * k)) 16) (Xs xs (3 * k + 1)) (Xs xs (3 * k + 2))) 4) - (σ 4)) * (σ 12))))), (4, .int (jj tn)), (5, .int (jj k)), (6, .int (jj (lowv (Xs xs (3 * k)) 16))), (7, .int (jj dp)), (8, .int (jj (σ 4))), (9, .int (jj (pyu σ 1))), (10, .int (jj (σ 12))), (11, .int (jj (acU σ (lowv (Xs xs (3 * k)) 16) (Xs xs ((3 * k) + 1)) (Xs xs ((3 * k) + 2)))))] → W pr l en room_1 s m args below meth c H locs (cells + 2) (slots + 32) Q (F0 m 217 ls []) := by
        intro   H locs w ls hl
        refine q_iload_n C hl dL_law_217 rfl 3 rfl ?_
        refine q_aload_n C hl dL_law_218 rfl 1 rfl ?_
        refine q_iconst C dL_law_219 ?_
        refine q_runi C w fr_all (q_V (As := [.int (jj 5)]) (rest := [.int (jj (fa + ((((acV σ (lowv (Xs xs (3 * k)) 16) (Xs xs (3 * k + 1)) (Xs xs (3 * k + 2))) 4) - (σ 4)) * (σ 12))))]) C w fr_all fX3_count gL_law_X3_count rfl ⟨Nat.le_of_ble_eq_true rfl, Nat.le_of_ble_eq_true rfl⟩ (kX3_count l D cI cC cS h hn adn hsn ads hh har hw adw (acV σ (lowv (Xs xs (3 * k)) 16) (Xs xs ((3 * k) + 1)) (Xs xs ((3 * k) + 2))) ς (rcH (acU σ (lowv (Xs xs (3 * k)) 16) (Xs xs ((3 * k) + 1)) (Xs xs ((3 * k) + 2))) dp hs) (rcH (acU σ (lowv (Xs xs (3 * k)) 16) (Xs xs ((3 * k) + 1)) (Xs xs ((3 * k) + 2))) dp ha) (rcH (acU σ (lowv (Xs xs (3 * k)) 16) (Xs xs ((3 * k) + 1)) (Xs xs ((3 * k) + 2))) dp (upN η dp.toNat σ)) (rcP (acU σ (lowv (Xs xs (3 * k)) 16) (Xs xs ((3 * k) + 1)) (Xs xs ((3 * k) + 2))) dp) τ kd am sd q u 5 hJ2.1 (by omega) _) (q0 := 0) rfl rfl rfl rfl hl (Nat.le_of_ble_eq_true rfl) dL_law_220 hcs2) (fun H locs w => ?_)
        rw [show (cnu (acV σ (lowv (Xs xs (3 * k)) 16) (Xs xs ((3 * k) + 1)) (Xs xs ((3 * k) + 2))) (rcP (acU σ (lowv (Xs xs (3 * k)) 16) (Xs xs ((3 * k) + 1)) (Xs xs ((3 * k) + 2))) dp) (q 1) 5) = (acV σ (lowv (Xs xs (3 * k)) 16) (Xs xs (3 * k + 1)) (Xs xs (3 * k + 2))) 5 from cnu_k (by omega) (by omega)]
        refine q_aload_n C hl dL_law_223 rfl 1 rfl ?_
        refine q_bipush C dL_law_224 (by decide) ?_
        refine q_runi C w fr_all (q_V (As := [.int (jj 6)]) (rest := [.int (jj ((acV σ (lowv (Xs xs (3 * k)) 16) (Xs xs (3 * k + 1)) (Xs xs (3 * k + 2))) 5)), .int (jj (fa + ((((acV σ (lowv (Xs xs (3 * k)) 16) (Xs xs (3 * k + 1)) (Xs xs (3 * k + 2))) 4) - (σ 4)) * (σ 12))))]) C w fr_all fX3_count gL_law_X3_count rfl ⟨Nat.le_of_ble_eq_true rfl, Nat.le_of_ble_eq_true rfl⟩ (kX3_count l D cI cC cS h hn adn hsn ads hh har hw adw (acV σ (lowv (Xs xs (3 * k)) 16) (Xs xs ((3 * k) + 1)) (Xs xs ((3 * k) + 2))) ς (rcH (acU σ (lowv (Xs xs (3 * k)) 16) (Xs xs ((3 * k) + 1)) (Xs xs ((3 * k) + 2))) dp hs) (rcH (acU σ (lowv (Xs xs (3 * k)) 16) (Xs xs ((3 * k) + 1)) (Xs xs ((3 * k) + 2))) dp ha) (rcH (acU σ (lowv (Xs xs (3 * k)) 16) (Xs xs ((3 * k) + 1)) (Xs xs ((3 * k) + 2))) dp (upN η dp.toNat σ)) (rcP (acU σ (lowv (Xs xs (3 * k)) 16) (Xs xs ((3 * k) + 1)) (Xs xs ((3 * k) + 2))) dp) τ kd am sd q u 6 hJ2.1 (by omega) _) (q0 := 0) rfl rfl rfl rfl hl (Nat.le_of_ble_eq_true rfl) dL_law_226 hcs2) (fun H locs w => ?_)
        rw [show (cnu (acV σ (lowv (Xs xs (3 * k)) 16) (Xs xs ((3 * k) + 1)) (Xs xs ((3 * k) + 2))) (rcP (acU σ (lowv (Xs xs (3 * k)) 16) (Xs xs ((3 * k) + 1)) (Xs xs ((3 * k) + 2))) dp) (q 1) 6) = (acV σ (lowv (Xs xs (3 * k)) 16) (Xs xs (3 * k + 1)) (Xs xs (3 * k + 2))) 6 from cnu_k (by omega) (by omega)]
        refine q_iadd C dL_law_229 ?_
        refine q_icmpN (tgt := 252) C dL_law_230 (by decide) hfa2 ?_
        refine q_aload_n C hl dL_law_233 rfl 1 rfl ?_
        refine q_aload_n C hl dL_law_234 rfl 0 rfl ?_
        refine q_iconst C dL_law_235 ?_
        refine q_iload C hl dL_law_236 5 rfl ?_
        refine q_imul C dL_law_238 ?_
        refine q_cell (rest := [.ref h]) (j := 3 * k) C w hX hbl hL ⟨by omega, by omega⟩ hl (Nat.le_of_ble_eq_true rfl) ⟨Nat.le_of_ble_eq_true rfl, Nat.le_of_ble_eq_true rfl⟩ dL_law_239 hcs2 (fun H locs w => ?_)
        refine q_runi C w fr_all (q_S (As := [.ref h, .int (jj (Xs xs (3 * k)))]) (rest := []) C w fr_all fL_holds gL_law_L_holds ⟨Nat.le_of_ble_eq_true rfl, Nat.le_of_ble_eq_true rfl⟩ (kL_holds l D cI cC cS h hn adn hsn ads hh har hw adw (acV σ (lowv (Xs xs (3 * k)) 16) (Xs xs ((3 * k) + 1)) (Xs xs ((3 * k) + 2))) ς (rcH (acU σ (lowv (Xs xs (3 * k)) 16) (Xs xs ((3 * k) + 1)) (Xs xs ((3 * k) + 2))) dp hs) (rcH (acU σ (lowv (Xs xs (3 * k)) 16) (Xs xs ((3 * k) + 1)) (Xs xs ((3 * k) + 2))) dp ha) (rcH (acU σ (lowv (Xs xs (3 * k)) 16) (Xs xs ((3 * k) + 1)) (Xs xs ((3 * k) + 2))) dp (upN η dp.toNat σ)) (rcP (acU σ (lowv (Xs xs (3 * k)) 16) (Xs xs ((3 * k) + 1)) (Xs xs ((3 * k) + 2))) dp) τ kd am sd q u (Xs xs (3 * k)) hJ2 _) rfl rfl hl (Nat.le_of_ble_eq_true rfl) dL_law_242 hcs2) (fun H locs w => ?_)
        refine q_ifz_eq (tgt := 252) C dL_law_245 (by decide) (fun z => absurd trivial z) (fun _ => ?_)
        refine q_iconst C dL_law_248 ?_
        refine q_goto (tgt := 253) C dL_law_249 (by decide) ?_
        refine q_istore_n (lv' := [(2, .int (jj 1)), (0, .ref b), (1, .ref h), (3, .int (jj (fa + ((((acV σ (lowv (Xs xs (3 * k)) 16) (Xs xs (3 * k + 1)) (Xs xs (3 * k + 2))) 4) - (σ 4)) * (σ 12))))), (4, .int (jj tn)), (5, .int (jj k)), (6, .int (jj (lowv (Xs xs (3 * k)) 16))), (7, .int (jj dp)), (8, .int (jj (σ 4))), (9, .int (jj (pyu σ 1))), (10, .int (jj (σ 12))), (11, .int (jj (acU σ (lowv (Xs xs (3 * k)) 16) (Xs xs ((3 * k) + 1)) (Xs xs ((3 * k) + 2)))))]) C hl dL_law_253 rfl (by decide) rfl (fun ls hl => ?_)
        refine q_iload_n C hl dL_law_254 rfl 0 rfl ?_
        refine q_if_eq (tgt := 317) C dL_law_255 (by decide) ⟨by omega, by omega⟩ (fun z => absurd z (by omega)) (fun _ => ?_)
        refine q_iload C hl dL_law_258 5 rfl ?_
        refine q_iconst C dL_law_260 ?_
        refine q_irem C dL_law_261 ⟨by omega, by omega⟩ ⟨by omega, by omega⟩ ?_
        refine q_iconst C dL_law_262 ?_
        refine q_icmp_ne (tgt := 313) C dL_law_263 (by decide) ⟨by omega, by omega⟩ ⟨by omega, by omega⟩ (fun c5 => ?_) (fun c5 => ?_)
        · have c5 := c5
          refine q_iconst C dL_law_313 ?_
          refine q_goto (tgt := 318) C dL_law_314 (by decide) ?_
          refine q_istore_n (lv' := [(2, .int (jj 1)), (0, .ref b), (1, .ref h), (3, .int (jj (fa + ((((acV σ (lowv (Xs xs (3 * k)) 16) (Xs xs (3 * k + 1)) (Xs xs (3 * k + 2))) 4) - (σ 4)) * (σ 12))))), (4, .int (jj tn)), (5, .int (jj k)), (6, .int (jj (lowv (Xs xs (3 * k)) 16))), (7, .int (jj dp)), (8, .int (jj (σ 4))), (9, .int (jj (pyu σ 1))), (10, .int (jj (σ 12))), (11, .int (jj (acU σ (lowv (Xs xs (3 * k)) 16) (Xs xs ((3 * k) + 1)) (Xs xs ((3 * k) + 2)))))]) C hl dL_law_318 rfl (by decide) rfl (fun ls hl => ?_)
          refine q_iinc (lv' := [(5, .int (jj (k + 1))), (2, .int (jj 1)), (0, .ref b), (1, .ref h), (3, .int (jj (fa + ((((acV σ (lowv (Xs xs (3 * k)) 16) (Xs xs (3 * k + 1)) (Xs xs (3 * k + 2))) 4) - (σ 4)) * (σ 12))))), (4, .int (jj tn)), (6, .int (jj (lowv (Xs xs (3 * k)) 16))), (7, .int (jj dp)), (8, .int (jj (σ 4))), (9, .int (jj (pyu σ 1))), (10, .int (jj (σ 12))), (11, .int (jj (acU σ (lowv (Xs xs (3 * k)) 16) (Xs xs ((3 * k) + 1)) (Xs xs ((3 * k) + 2)))))]) C hl dL_law_319 5 rfl (by decide) rfl (fun ls hl => ?_)
          refine q_goto (tgt := 65) C dL_law_322 (by decide) ?_
          exact kk _ _ _ _ _ _ _ _ _ hJ2 hdp2 hfa2 w (lv_sub hl [0, 5, 4, 1, 3, 2] rfl)
        · have c5 := c5
          have hd1 := lowv_b (Xs xs (3 * k + 1)) (n := 99) (by omega)
          have hd2 := lowv_b (Xs xs (3 * k + 2)) (n := 3) (by omega)
          refine q_aload_n C hl dL_law_266 rfl 2 rfl ?_
          refine q_iconst C dL_law_267 ?_
          refine q_aload_n C hl dL_law_268 rfl 1 rfl ?_
          refine q_iconst C dL_law_269 ?_
          refine q_iload C hl dL_law_270 5 rfl ?_
          refine q_imul C dL_law_272 ?_
          refine q_iconst C dL_law_273 ?_
          refine q_iadd C dL_law_274 ?_
          refine q_cell (rest := [.int (jj 1), .ref h]) (j := (3 * k) + 1) C w hX hbl hL ⟨by omega, by omega⟩ hl (Nat.le_of_ble_eq_true rfl) ⟨Nat.le_of_ble_eq_true rfl, Nat.le_of_ble_eq_true rfl⟩ dL_law_275 hcs2 (fun H locs w => ?_)
          refine q_bipush C dL_law_278 (by decide) ?_
          refine q_runi C w fr_nil (q_S (As := [.int (jj (Xs xs ((3 * k) + 1))), .int (jj 99)]) (rest := [.int (jj 1), .ref h]) C w fr_nil fL_low gL_law_L_low ⟨Nat.le_of_ble_eq_true rfl, Nat.le_of_ble_eq_true rfl⟩ (kL_low l D cI cC cS (Xs xs ((3 * k) + 1)) 99 ⟨by omega, by omega⟩ _) rfl rfl hl (Nat.le_of_ble_eq_true rfl) dL_law_280 hcs2) (fun H locs w => ?_)
          refine q_iadd C dL_law_283 ?_
          refine q_aload_n C hl dL_law_284 rfl 1 rfl ?_
          refine q_iconst C dL_law_285 ?_
          refine q_iload C hl dL_law_286 5 rfl ?_
          refine q_imul C dL_law_288 ?_
          refine q_iconst C dL_law_289 ?_
          refine q_iadd C dL_law_290 ?_
          refine q_cell (rest := [.int (jj (1 + (lowv (Xs xs ((3 * k) + 1)) 99))), .ref h]) (j := (3 * k) + 2) C w hX hbl hL ⟨by omega, by omega⟩ hl (Nat.le_of_ble_eq_true rfl) ⟨Nat.le_of_ble_eq_true rfl, Nat.le_of_ble_eq_true rfl⟩ dL_law_291 hcs2 (fun H locs w => ?_)
          refine q_iconst C dL_law_294 ?_
          refine q_runi C w fr_nil (q_S (As := [.int (jj (Xs xs ((3 * k) + 2))), .int (jj 3)]) (rest := [.int (jj (1 + (lowv (Xs xs ((3 * k) + 1)) 99))), .ref h]) C w fr_nil fL_low gL_law_L_low ⟨Nat.le_of_ble_eq_true rfl, Nat.le_of_ble_eq_true rfl⟩ (kL_low l D cI cC cS (Xs xs ((3 * k) + 2)) 3 ⟨by omega, by omega⟩ _) rfl rfl hl (Nat.le_of_ble_eq_true rfl) dL_law_295 hcs2) (fun H locs w => ?_)
          refine q_runi C w fr_all (q_S (As := [.ref h, .int (jj (1 + (lowv (Xs xs ((3 * k) + 1)) 99))), .int (jj (lowv (Xs xs ((3 * k) + 2)) 3))]) (rest := []) C w fr_all fL_isBest gL_law_L_isBest ⟨Nat.le_of_ble_eq_true rfl, Nat.le_of_ble_eq_true rfl⟩ (kL_isBest l D cI cC cS h hn adn hsn ads hh har hw adw (acV σ (lowv (Xs xs (3 * k)) 16) (Xs xs ((3 * k) + 1)) (Xs xs ((3 * k) + 2))) ς (rcH (acU σ (lowv (Xs xs (3 * k)) 16) (Xs xs ((3 * k) + 1)) (Xs xs ((3 * k) + 2))) dp hs) (rcH (acU σ (lowv (Xs xs (3 * k)) 16) (Xs xs ((3 * k) + 1)) (Xs xs ((3 * k) + 2))) dp ha) (rcH (acU σ (lowv (Xs xs (3 * k)) 16) (Xs xs ((3 * k) + 1)) (Xs xs ((3 * k) + 2))) dp (upN η dp.toNat σ)) (rcP (acU σ (lowv (Xs xs (3 * k)) 16) (Xs xs ((3 * k) + 1)) (Xs xs ((3 * k) + 2))) dp) τ kd am sd q u (1 + (lowv (Xs xs ((3 * k) + 1)) 99)) (lowv (Xs xs ((3 * k) + 2)) 3) hJ2 hdp2 ⟨⟨by omega, by omega⟩, ⟨by omega, by omega⟩⟩ _) rfl rfl hl (Nat.le_of_ble_eq_true rfl) dL_law_298 hcs2) (fun H locs w => ?_)
          refine q_ifz_eq (tgt := 317) C dL_law_301 (by decide) (fun z => absurd trivial z) (fun _ => ?_)
          refine q_aload_n C hl dL_law_304 rfl 2 rfl ?_
          refine q_bipush C dL_law_305 (by decide) ?_
          refine q_runi C w fr_all (q_S (As := [.ref h, .int (jj 7)]) (rest := []) C w fr_all fL_holds gL_law_L_holds ⟨Nat.le_of_ble_eq_true rfl, Nat.le_of_ble_eq_true rfl⟩ (kL_holds l D cI cC cS h hn adn hsn ads hh har hw adw (acV σ (lowv (Xs xs (3 * k)) 16) (Xs xs ((3 * k) + 1)) (Xs xs ((3 * k) + 2))) ς ((hbs (acV σ (lowv (Xs xs (3 * k)) 16) (Xs xs ((3 * k) + 1)) (Xs xs ((3 * k) + 2))) (rcH (acU σ (lowv (Xs xs (3 * k)) 16) (Xs xs ((3 * k) + 1)) (Xs xs ((3 * k) + 2))) dp hs) (rcH (acU σ (lowv (Xs xs (3 * k)) 16) (Xs xs ((3 * k) + 1)) (Xs xs ((3 * k) + 2))) dp ha) (rcH (acU σ (lowv (Xs xs (3 * k)) 16) (Xs xs ((3 * k) + 1)) (Xs xs ((3 * k) + 2))) dp (upN η dp.toNat σ)) (rcP (acU σ (lowv (Xs xs (3 * k)) 16) (Xs xs ((3 * k) + 1)) (Xs xs ((3 * k) + 2))) dp) ((acV σ (lowv (Xs xs (3 * k)) 16) (Xs xs ((3 * k) + 1)) (Xs xs ((3 * k) + 2))) 0 - 1)).1) ((hbs (acV σ (lowv (Xs xs (3 * k)) 16) (Xs xs ((3 * k) + 1)) (Xs xs ((3 * k) + 2))) (rcH (acU σ (lowv (Xs xs (3 * k)) 16) (Xs xs ((3 * k) + 1)) (Xs xs ((3 * k) + 2))) dp hs) (rcH (acU σ (lowv (Xs xs (3 * k)) 16) (Xs xs ((3 * k) + 1)) (Xs xs ((3 * k) + 2))) dp ha) (rcH (acU σ (lowv (Xs xs (3 * k)) 16) (Xs xs ((3 * k) + 1)) (Xs xs ((3 * k) + 2))) dp (upN η dp.toNat σ)) (rcP (acU σ (lowv (Xs xs (3 * k)) 16) (Xs xs ((3 * k) + 1)) (Xs xs ((3 * k) + 2))) dp) ((acV σ (lowv (Xs xs (3 * k)) 16) (Xs xs ((3 * k) + 1)) (Xs xs ((3 * k) + 2))) 0 - 1)).2.1) ((hbs (acV σ (lowv (Xs xs (3 * k)) 16) (Xs xs ((3 * k) + 1)) (Xs xs ((3 * k) + 2))) (rcH (acU σ (lowv (Xs xs (3 * k)) 16) (Xs xs ((3 * k) + 1)) (Xs xs ((3 * k) + 2))) dp hs) (rcH (acU σ (lowv (Xs xs (3 * k)) 16) (Xs xs ((3 * k) + 1)) (Xs xs ((3 * k) + 2))) dp ha) (rcH (acU σ (lowv (Xs xs (3 * k)) 16) (Xs xs ((3 * k) + 1)) (Xs xs ((3 * k) + 2))) dp (upN η dp.toNat σ)) (rcP (acU σ (lowv (Xs xs (3 * k)) 16) (Xs xs ((3 * k) + 1)) (Xs xs ((3 * k) + 2))) dp) ((acV σ (lowv (Xs xs (3 * k)) 16) (Xs xs ((3 * k) + 1)) (Xs xs ((3 * k) + 2))) 0 - 1)).2.2.1) ((hbs (acV σ (lowv (Xs xs (3 * k)) 16) (Xs xs ((3 * k) + 1)) (Xs xs ((3 * k) + 2))) (rcH (acU σ (lowv (Xs xs (3 * k)) 16) (Xs xs ((3 * k) + 1)) (Xs xs ((3 * k) + 2))) dp hs) (rcH (acU σ (lowv (Xs xs (3 * k)) 16) (Xs xs ((3 * k) + 1)) (Xs xs ((3 * k) + 2))) dp ha) (rcH (acU σ (lowv (Xs xs (3 * k)) 16) (Xs xs ((3 * k) + 1)) (Xs xs ((3 * k) + 2))) dp (upN η dp.toNat σ)) (rcP (acU σ (lowv (Xs xs (3 * k)) 16) (Xs xs ((3 * k) + 1)) (Xs xs ((3 * k) + 2))) dp) ((acV σ (lowv (Xs xs (3 * k)) 16) (Xs xs ((3 * k) + 1)) (Xs xs ((3 * k) + 2))) 0 - 1)).2.2.2) τ kd am sd q u 7 hJ2 _) rfl rfl hl (Nat.le_of_ble_eq_true rfl) dL_law_307 hcs2) (fun H locs w => ?_)
          refine q_ifz_eq (tgt := 317) C dL_law_310 (by decide) (fun z => absurd trivial z) (fun _ => ?_)
          refine q_iconst C dL_law_313 ?_
          refine q_goto (tgt := 318) C dL_law_314 (by decide) ?_
          refine q_istore_n (lv' := [(2, .int (jj 1)), (0, .ref b), (1, .ref h), (3, .int (jj (fa + ((((acV σ (lowv (Xs xs (3 * k)) 16) (Xs xs (3 * k + 1)) (Xs xs (3 * k + 2))) 4) - (σ 4)) * (σ 12))))), (4, .int (jj tn)), (5, .int (jj k)), (6, .int (jj (lowv (Xs xs (3 * k)) 16))), (7, .int (jj dp)), (8, .int (jj (σ 4))), (9, .int (jj (pyu σ 1))), (10, .int (jj (σ 12))), (11, .int (jj (acU σ (lowv (Xs xs (3 * k)) 16) (Xs xs ((3 * k) + 1)) (Xs xs ((3 * k) + 2)))))]) C hl dL_law_318 rfl (by decide) rfl (fun ls hl => ?_)
          refine q_iinc (lv' := [(5, .int (jj (k + 1))), (2, .int (jj 1)), (0, .ref b), (1, .ref h), (3, .int (jj (fa + ((((acV σ (lowv (Xs xs (3 * k)) 16) (Xs xs (3 * k + 1)) (Xs xs (3 * k + 2))) 4) - (σ 4)) * (σ 12))))), (4, .int (jj tn)), (6, .int (jj (lowv (Xs xs (3 * k)) 16))), (7, .int (jj dp)), (8, .int (jj (σ 4))), (9, .int (jj (pyu σ 1))), (10, .int (jj (σ 12))), (11, .int (jj (acU σ (lowv (Xs xs (3 * k)) 16) (Xs xs ((3 * k) + 1)) (Xs xs ((3 * k) + 2)))))]) C hl dL_law_319 5 rfl (by decide) rfl (fun ls hl => ?_)
          refine q_goto (tgt := 65) C dL_law_322 (by decide) ?_
          exact kk _ _ _ _ _ _ _ _ _ hJ2 (hbs_d hdp2 _) hfa2 w (lv_sub hl [0, 5, 4, 1, 3, 2] rfl)
      refine q_iload C hl dL_law_203 6 rfl ?_
      refine q_bipush C dL_law_205 (by decide) ?_
      refine q_icmp_ne (tgt := 217) C dL_law_207 (by decide) ⟨by omega, by omega⟩ ⟨by omega, by omega⟩ (fun c8 => ?_) (fun c8 => ?_)
      · have c8 := c8
        exact join217   _ _ w ls (lv_sub hl [0, 1, 2, 3, 4, 5, 6, 7, 8, 9, 10, 11] rfl)
      · have c8 := c8
        have e11 : lowv (Xs xs (3 * k)) 16 = 11 := c8
        refine q_iload C hl dL_law_210 11 rfl ?_
        refine q_iload C hl dL_law_212 9 rfl ?_
        refine q_icmpN (tgt := 252) C dL_law_214 (by decide) (by rw [e11]; exact acU_11 bJ.1 _ _) ?_
        exact join217   _ _ w ls (lv_sub hl [0, 1, 2, 3, 4, 5, 6, 7, 8, 9, 10, 11] rfl)
    refine q_aload_n C hl dL_law_170 rfl 10 rfl ?_
    refine q_bipush C dL_law_171 (by decide) ?_
    refine q_runi C w fr_all (q_V (As := [.int (jj 16)]) (rest := []) C w fr_all fX3_count gL_law_X3_count rfl ⟨Nat.le_of_ble_eq_true rfl, Nat.le_of_ble_eq_true rfl⟩ (kX3_count l D cI cC cS h hn adn hsn ads hh har hw adw (acV σ (lowv (Xs xs (3 * k)) 16) (Xs xs ((3 * k) + 1)) (Xs xs ((3 * k) + 2))) ς (rcH (acU σ (lowv (Xs xs (3 * k)) 16) (Xs xs ((3 * k) + 1)) (Xs xs ((3 * k) + 2))) dp hs) (rcH (acU σ (lowv (Xs xs (3 * k)) 16) (Xs xs ((3 * k) + 1)) (Xs xs ((3 * k) + 2))) dp ha) (rcH (acU σ (lowv (Xs xs (3 * k)) 16) (Xs xs ((3 * k) + 1)) (Xs xs ((3 * k) + 2))) dp (upN η dp.toNat σ)) (rcP (acU σ (lowv (Xs xs (3 * k)) 16) (Xs xs ((3 * k) + 1)) (Xs xs ((3 * k) + 2))) dp) τ kd am sd q u 16 hJ2.1 (by omega) _) (q0 := 0) rfl rfl rfl rfl hl (Nat.le_of_ble_eq_true rfl) dL_law_173 hcs2) (fun H locs w => ?_)
    rw [show (cnu (acV σ (lowv (Xs xs (3 * k)) 16) (Xs xs ((3 * k) + 1)) (Xs xs ((3 * k) + 2))) (rcP (acU σ (lowv (Xs xs (3 * k)) 16) (Xs xs ((3 * k) + 1)) (Xs xs ((3 * k) + 2))) dp) (q 1) 16) = rcP (acU σ (lowv (Xs xs (3 * k)) 16) (Xs xs ((3 * k) + 1)) (Xs xs ((3 * k) + 2))) dp from cnu_16 _ _ _]
    refine q_iload C hl dL_law_176 1 rfl ?_
    refine q_if_ge (tgt := 186) C dL_law_178 (by decide) ⟨by omega, by omega⟩ (fun c9 => ?_) (fun c9 => ?_)
    · have c9 := c9
      refine q_iload C hl dL_law_186 5 rfl ?_
      refine q_iconst C dL_law_188 ?_
      refine q_icmp_ne (tgt := 196) C dL_law_189 (by decide) ⟨by omega, by omega⟩ ⟨by omega, by omega⟩ (fun c10 => ?_) (fun c10 => ?_)
      · have c10 := c10
        refine q_iload C hl dL_law_196 5 rfl ?_
        refine q_iconst C dL_law_198 ?_
        refine q_iadd C dL_law_199 ?_
        refine q_icmpN (tgt := 252) C dL_law_200 (by decide) (by unfold rcP kdp; (repeat' split) <;> omega) ?_
        exact join203   _ _ w ls (lv_sub hl [11, 10, 9, 0, 8, 7, 6, 5, 4, 3, 2, 1] rfl)
      · have c10 := c10
        refine q_iconst C dL_law_192 ?_
        refine q_goto (tgt := 200) C dL_law_193 (by decide) ?_
        refine q_icmpN (tgt := 252) C dL_law_200 (by decide) (by unfold rcP kdp; (repeat' split) <;> omega) ?_
        exact join203   _ _ w ls (lv_sub hl [11, 10, 9, 0, 8, 7, 6, 5, 4, 3, 2, 1] rfl)
    · have c9 := c9
      refine q_iload C hl dL_law_181 5 rfl ?_
      refine q_goto (tgt := 200) C dL_law_183 (by decide) ?_
      refine q_icmpN (tgt := 252) C dL_law_200 (by decide) (by unfold rcP kdp; (repeat' split) <;> omega) ?_
      exact join203   _ _ w ls (lv_sub hl [11, 10, 9, 0, 8, 7, 6, 5, 4, 3, 2, 1] rfl)
