def rL_holds : Room := { frames := 8, cells := 0, slots := 0, locals := 196 }
theorem fL_holds : Fc yL_holds wsL_holds rL_holds cL_holds 10 (some .boolean) 2 := ⟨⟨_, rfl⟩, rfl, rfl, by decide +kernel, by decide +kernel, by decide +kernel⟩
set_option maxHeartbeats 4000000 in
set_option maxRecDepth 10000 in
theorem kL_holds (l : Launch) (D : va_G) (cI cC cS : ClassId) (h hn : Nat) (adn : Nat → Nat) (hsn : Nat) (ads : Nat → Nat) (hh har hw : Nat) (adw : Nat → Nat) (σ ς : Int → Int) (hs : Nat → Nat) (ha : Nat → Nat → Nat) (η : Nat → Int → Int) (dp : Int) (τ kd am sd q u : Int → Int) (x : Int) (bJ : Jv σ) : Ki l yL_holds wsL_holds rL_holds D (tz cI cC cS) [.ref h, .int (jj x)] (uW cI cC cS h hn adn hsn ads hh har hw adw σ ς hs ha η dp τ kd am sd q u) (bI True) (uW cI cC cS h hn adn hsn ads hh har hw adw σ ς hs ha η dp τ kd am sd q u) := by
  have bY := bJ.1
  have bY2 := bY
  obtain ⟨hW, hE, hP, hC, hN, hU, h1, h9, h10, h11, h12⟩ := bY2
  have hn2 := hW.2.1
  have hn_ := hW.1
  have hwu := wtu_d bY
  refine q_entry (cc := cL_holds) (nL := 10) (ret := (some .boolean)) (by decide) ⟨_, rfl⟩ (Nat.le_of_ble_eq_true rfl) ?_
  intro A pr en s m args below meth c C hin w ls hl
  have w := w
  have hl : lv_has ls 10 [(0, .ref h), (1, .int (jj x))] := hl
  refine q_aload_n C hl dL_holds_0 rfl 0 rfl ?_
  refine q_iconst C dL_holds_1 ?_
  refine q_runi C w fr_all (q_V (As := [.int (jj 0)]) (rest := []) C w fr_all fX3_count gL_holds_X3_count rfl ⟨Nat.le_of_ble_eq_true rfl, Nat.le_of_ble_eq_true rfl⟩ (kX3_count l D cI cC cS h hn adn hsn ads hh har hw adw σ ς hs ha η dp τ kd am sd q u 0 bY (by omega) _) (q0 := 0) rfl rfl rfl rfl hl (Nat.le_of_ble_eq_true rfl) dL_holds_2 ⟨Nat.le_refl 0, Nat.le_refl 0⟩) (fun H locs w => ?_)
  rw [show (cnu σ dp (q 1) 0) = σ 0 from cnu_k (by omega) (by omega)]
  refine q_istore_n (lv' := [(2, .int (jj (σ 0))), (0, .ref h), (1, .int (jj x))]) C hl dL_holds_5 rfl (by decide) rfl (fun ls hl => ?_)
  refine q_iconst C dL_holds_6 ?_
  refine q_istore_n (lv' := [(3, .int (jj 0)), (2, .int (jj (σ 0))), (0, .ref h), (1, .int (jj x))]) C hl dL_holds_7 rfl (by decide) rfl (fun ls hl => ?_)
  refine q_iconst C dL_holds_8 ?_
  refine q_istore (lv' := [(4, .int (jj 0)), (3, .int (jj 0)), (2, .int (jj (σ 0))), (0, .ref h), (1, .int (jj x))]) C hl dL_holds_9 (by decide) rfl (fun ls hl => ?_)
  refine q_aload_n C hl dL_holds_11 rfl 3 rfl ?_
  refine q_iload_n C hl dL_holds_12 rfl 2 rfl ?_
  refine q_iconst C dL_holds_13 ?_
  refine q_runi C w fr_all (q_V (As := [.int (jj (σ 0)), .int (jj 0)]) (rest := []) C w fr_all fX3_person gL_holds_X3_person rfl ⟨Nat.le_of_ble_eq_true rfl, Nat.le_of_ble_eq_true rfl⟩ (kX3_person l D cI cC cS h hn adn hsn ads hh har hw adw σ ς hs ha η dp τ kd am sd q u (σ 0) 0 bY (by omega) (by omega) _) (q0 := 0) rfl rfl rfl rfl hl (Nat.le_of_ble_eq_true rfl) dL_holds_14 ⟨Nat.le_refl 0, Nat.le_refl 0⟩) (fun H locs w => ?_)
  rw [show (psu σ (σ 0) 0) = (-1) from psu_no (fun zz => by have := zz.2; omega) 0]
  refine q_iconst C dL_holds_17 ?_
  refine q_icmpN (tgt := 52) C dL_holds_18 (by decide) rfl ?_
  refine q_aload_n C hl dL_holds_21 rfl 3 rfl ?_
  refine q_iconst C dL_holds_22 ?_
  refine q_runi C w fr_all (q_V (As := [.int (jj 1)]) (rest := []) C w fr_all fX3_count gL_holds_X3_count rfl ⟨Nat.le_of_ble_eq_true rfl, Nat.le_of_ble_eq_true rfl⟩ (kX3_count l D cI cC cS h hn adn hsn ads hh har hw adw σ ς hs ha η dp τ kd am sd q u 1 bY (by omega) _) (q0 := 0) rfl rfl rfl rfl hl (Nat.le_of_ble_eq_true rfl) dL_holds_23 ⟨Nat.le_refl 0, Nat.le_refl 0⟩) (fun H locs w => ?_)
  rw [show (cnu σ dp (q 1) 1) = σ 1 from cnu_k (by omega) (by omega)]
  refine q_iload_n C hl dL_holds_26 rfl 2 rfl ?_
  refine q_aload_n C hl dL_holds_27 rfl 3 rfl ?_
  refine q_iconst C dL_holds_28 ?_
  refine q_runi C w fr_all (q_V (As := [.int (jj 2)]) (rest := [.int (jj (σ 0)), .int (jj (σ 1))]) C w fr_all fX3_count gL_holds_X3_count rfl ⟨Nat.le_of_ble_eq_true rfl, Nat.le_of_ble_eq_true rfl⟩ (kX3_count l D cI cC cS h hn adn hsn ads hh har hw adw σ ς hs ha η dp τ kd am sd q u 2 bY (by omega) _) (q0 := 0) rfl rfl rfl rfl hl (Nat.le_of_ble_eq_true rfl) dL_holds_29 ⟨Nat.le_refl 0, Nat.le_refl 0⟩) (fun H locs w => ?_)
  rw [show (cnu σ dp (q 1) 2) = σ 2 from cnu_k (by omega) (by omega)]
  refine q_iadd C dL_holds_32 ?_
  refine q_aload_n C hl dL_holds_33 rfl 3 rfl ?_
  refine q_iconst C dL_holds_34 ?_
  refine q_runi C w fr_all (q_V (As := [.int (jj 3)]) (rest := [.int (jj ((σ 0) + (σ 2))), .int (jj (σ 1))]) C w fr_all fX3_count gL_holds_X3_count rfl ⟨Nat.le_of_ble_eq_true rfl, Nat.le_of_ble_eq_true rfl⟩ (kX3_count l D cI cC cS h hn adn hsn ads hh har hw adw σ ς hs ha η dp τ kd am sd q u 3 bY (by omega) _) (q0 := 0) rfl rfl rfl rfl hl (Nat.le_of_ble_eq_true rfl) dL_holds_35 ⟨Nat.le_refl 0, Nat.le_refl 0⟩) (fun H locs w => ?_)
  rw [show (cnu σ dp (q 1) 3) = σ 3 from cnu_k (by omega) (by omega)]
  refine q_iadd C dL_holds_38 ?_
  refine q_aload_n C hl dL_holds_39 rfl 3 rfl ?_
  refine q_iconst C dL_holds_40 ?_
  refine q_runi C w fr_all (q_V (As := [.int (jj 4)]) (rest := [.int (jj (((σ 0) + (σ 2)) + (σ 3))), .int (jj (σ 1))]) C w fr_all fX3_count gL_holds_X3_count rfl ⟨Nat.le_of_ble_eq_true rfl, Nat.le_of_ble_eq_true rfl⟩ (kX3_count l D cI cC cS h hn adn hsn ads hh har hw adw σ ς hs ha η dp τ kd am sd q u 4 bY (by omega) _) (q0 := 0) rfl rfl rfl rfl hl (Nat.le_of_ble_eq_true rfl) dL_holds_41 ⟨Nat.le_refl 0, Nat.le_refl 0⟩) (fun H locs w => ?_)
  rw [show (cnu σ dp (q 1) 4) = σ 4 from cnu_k (by omega) (by omega)]
  refine q_iadd C dL_holds_44 ?_
  refine q_icmpN (tgt := 52) C dL_holds_45 (by decide) (by have := bJ.2.2.2; unfold Acc at this; omega) ?_
  refine q_iconst C dL_holds_48 ?_
  refine q_goto (tgt := 53) C dL_holds_49 (by decide) ?_
  refine q_istore (lv' := [(5, .int (jj 1)), (4, .int (jj 0)), (3, .int (jj 0)), (2, .int (jj (σ 0))), (0, .ref h), (1, .int (jj x))]) C hl dL_holds_53 (by decide) rfl (fun ls hl => ?_)
  refine q_iconst C dL_holds_55 ?_
  refine q_istore (lv' := [(6, .int (jj 0)), (5, .int (jj 1)), (4, .int (jj 0)), (3, .int (jj 0)), (2, .int (jj (σ 0))), (0, .ref h), (1, .int (jj x))]) C hl dL_holds_56 (by decide) rfl (fun ls hl => ?_)
  have loop58 : ∀ (n58 : Nat) (i : Int) (wt : Int) (br : Int), (0 ≤ i) → (i ≤ σ 0) → (wt = swf σ i) → (br = unf σ i) → (σ 0 - i).toNat < n58 → ∀ (H : Heap) (locs : List Loc), Wd D A s (uW cI cC cS h hn adn hsn ads hh har hw adw σ ς hs ha η dp τ kd am sd q u) H locs → ∀ ls : Array Slot, lv_has ls 10 [(0, .ref h), (1, .int (jj x)), (2, .int (jj (σ 0))), (3, .int (jj wt)), (4, .int (jj br)), (5, .int (jj 1)), (6, .int (jj i))] → W pr l en rL_holds s m args below meth c H locs 0 0 (MQ below (Qi D (tz cI cC cS) (bI True) (uW cI cC cS h hn adn hsn ads hh har hw adw σ ς hs ha η dp τ kd am sd q u) A) args s 0 0 A) (F0 m 58 ls []) := by
    intro n58
    induction n58 with
    | zero => intro i wt br hi0 hi1 hwt hbr hm; exact absurd hm (Nat.not_lt_zero _)
    | succ n58 ih58 =>
      intro i wt br hi0 hi1 hwt hbr hm58 H locs w ls hl
      refine q_iload C hl dL_holds_58 6 rfl ?_
      refine q_iload_n C hl dL_holds_60 rfl 2 rfl ?_
      refine q_icmp_ge (tgt := 150) C dL_holds_61 (by decide) ⟨by omega, by omega⟩ ⟨by omega, by omega⟩ (fun c1 => ?_) (fun c1 => ?_)
      · have c1 := c1
        have ei : i = σ 0 := by omega
        refine q_aload_n C hl dL_holds_150 rfl 0 rfl ?_
        refine q_bipush C dL_holds_151 (by decide) ?_
        refine q_runi C w fr_all (q_V (As := [.int (jj 11)]) (rest := []) C w fr_all fX3_count gL_holds_X3_count rfl ⟨Nat.le_of_ble_eq_true rfl, Nat.le_of_ble_eq_true rfl⟩ (kX3_count l D cI cC cS h hn adn hsn ads hh har hw adw σ ς hs ha η dp τ kd am sd q u 11 bY (by omega) _) (q0 := 0) rfl rfl rfl rfl hl (Nat.le_of_ble_eq_true rfl) dL_holds_153 ⟨Nat.le_refl 0, Nat.le_refl 0⟩) (fun H locs w => ?_)
        rw [show (cnu σ dp (q 1) 11) = wtu σ from cnu_11 _ _ _]
        refine q_istore (lv' := [(6, .int (jj (wtu σ))), (0, .ref h), (1, .int (jj x)), (2, .int (jj (σ 0))), (3, .int (jj wt)), (4, .int (jj br)), (5, .int (jj 1))]) C hl dL_holds_156 (by decide) rfl (fun ls hl => ?_)
        refine q_iload C hl dL_holds_158 6 rfl ?_
        refine q_if_eq (tgt := 212) C dL_holds_160 (by decide) ⟨by omega, by omega⟩ (fun z => absurd z (by omega)) (fun _ => ?_)
        refine q_iload_n C hl dL_holds_163 rfl 4 rfl ?_
        refine q_aload_n C hl dL_holds_164 rfl 1 rfl ?_
        refine q_bipush C dL_holds_165 (by decide) ?_
        refine q_runi C w fr_all (q_V (As := [.int (jj 10)]) (rest := [.int (jj wt)]) C w fr_all fX3_count gL_holds_X3_count rfl ⟨Nat.le_of_ble_eq_true rfl, Nat.le_of_ble_eq_true rfl⟩ (kX3_count l D cI cC cS h hn adn hsn ads hh har hw adw σ ς hs ha η dp τ kd am sd q u 10 bY (by omega) _) (q0 := 0) rfl rfl rfl rfl hl (Nat.le_of_ble_eq_true rfl) dL_holds_167 ⟨Nat.le_refl 0, Nat.le_refl 0⟩) (fun H locs w => ?_)
        rw [show (cnu σ dp (q 1) 10) = swf σ (σ 0) from cnu_10 _ _ _]
        refine q_icmpN (tgt := 212) C dL_holds_170 (by decide) (by rw [hwt, ei]) ?_
        refine q_iload C hl dL_holds_173 5 rfl ?_
        refine q_aload_n C hl dL_holds_175 rfl 1 rfl ?_
        refine q_bipush C dL_holds_176 (by decide) ?_
        refine q_runi C w fr_all (q_V (As := [.int (jj 12)]) (rest := [.int (jj br)]) C w fr_all fX3_count gL_holds_X3_count rfl ⟨Nat.le_of_ble_eq_true rfl, Nat.le_of_ble_eq_true rfl⟩ (kX3_count l D cI cC cS h hn adn hsn ads hh har hw adw σ ς hs ha η dp τ kd am sd q u 12 bY (by omega) _) (q0 := 0) rfl rfl rfl rfl hl (Nat.le_of_ble_eq_true rfl) dL_holds_178 ⟨Nat.le_refl 0, Nat.le_refl 0⟩) (fun H locs w => ?_)
        rw [show (cnu σ dp (q 1) 12) = unf σ (σ 0) from cnu_12 _ _ _]
        refine q_icmpN (tgt := 212) C dL_holds_181 (by decide) (by rw [hbr, ei]) ?_
        have join208 :   ∀ (H : Heap) (locs : List Loc), Wd D A s (uW cI cC cS h hn adn hsn ads hh har hw adw σ ς hs ha η dp τ kd am sd q u) H locs → ∀ ls : Array Slot, lv_has ls 10 [(0, .ref h), (1, .int (jj x)), (2, .int (jj (σ 0))), (3, .int (jj wt)), (4, .int (jj br)), (5, .int (jj 1)), (6, .int (jj (wtu σ)))] → W pr l en rL_holds s m args below meth c H locs 0 0 (MQ below (Qi D (tz cI cC cS) (bI True) (uW cI cC cS h hn adn hsn ads hh har hw adw σ ς hs ha η dp τ kd am sd q u) A) args s 0 0 A) (F0 m 208 ls []) := by
          intro   H locs w ls hl
          refine q_iconst C dL_holds_208 ?_
          refine q_goto (tgt := 213) C dL_holds_209 (by decide) ?_
          refine q_istore (lv' := [(5, .int (jj 1)), (0, .ref h), (1, .int (jj x)), (2, .int (jj (σ 0))), (3, .int (jj wt)), (4, .int (jj br)), (6, .int (jj (wtu σ)))]) C hl dL_holds_213 (by decide) rfl (fun ls hl => ?_)
          refine q_iconst C dL_holds_215 ?_
          refine q_istore (lv' := [(7, .int (jj 0)), (5, .int (jj 1)), (0, .ref h), (1, .int (jj x)), (2, .int (jj (σ 0))), (3, .int (jj wt)), (4, .int (jj br)), (6, .int (jj (wtu σ)))]) C hl dL_holds_216 (by decide) rfl (fun ls hl => ?_)
          have loop218 : ∀ (n218 : Nat) (j : Int), (0 ≤ j) → (j ≤ σ 0) → (σ 0 - j).toNat < n218 → ∀ (H : Heap) (locs : List Loc), Wd D A s (uW cI cC cS h hn adn hsn ads hh har hw adw σ ς hs ha η dp τ kd am sd q u) H locs → ∀ ls : Array Slot, lv_has ls 10 [(0, .ref h), (1, .int (jj x)), (2, .int (jj (σ 0))), (3, .int (jj wt)), (4, .int (jj br)), (5, .int (jj 1)), (6, .int (jj (wtu σ))), (7, .int (jj j))] → W pr l en rL_holds s m args below meth c H locs 0 0 (MQ below (Qi D (tz cI cC cS) (bI True) (uW cI cC cS h hn adn hsn ads hh har hw adw σ ς hs ha η dp τ kd am sd q u) A) args s 0 0 A) (F0 m 218 ls []) := by
            intro n218
            induction n218 with
            | zero => intro j hj0 hj1 hm; exact absurd hm (Nat.not_lt_zero _)
            | succ n218 ih218 =>
              intro j hj0 hj1 hm218 H locs w ls hl
              refine q_iload C hl dL_holds_218 7 rfl ?_
              refine q_iload_n C hl dL_holds_220 rfl 2 rfl ?_
              refine q_icmp_ge (tgt := 283) C dL_holds_221 (by decide) ⟨by omega, by omega⟩ ⟨by omega, by omega⟩ (fun c3 => ?_) (fun c3 => ?_)
              · have c3 := c3
                refine q_aload_n C hl dL_holds_283 rfl 0 rfl ?_
                refine q_iconst C dL_holds_284 ?_
                refine q_runi C w fr_all (q_V (As := [.int (jj 0)]) (rest := []) C w fr_all fX3_payer gL_holds_X3_payer rfl ⟨Nat.le_of_ble_eq_true rfl, Nat.le_of_ble_eq_true rfl⟩ (kX3_payer l D cI cC cS h hn adn hsn ads hh har hw adw σ ς hs ha η dp τ kd am sd q u 0 bY (by omega) _) (q0 := 0) rfl rfl rfl rfl hl (Nat.le_of_ble_eq_true rfl) dL_holds_285 ⟨Nat.le_refl 0, Nat.le_refl 0⟩) (fun H locs w => ?_)
                refine q_istore (lv' := [(7, .int (jj (pyu σ 0))), (0, .ref h), (1, .int (jj x)), (2, .int (jj (σ 0))), (3, .int (jj wt)), (4, .int (jj br)), (5, .int (jj 1)), (6, .int (jj (wtu σ)))]) C hl dL_holds_288 (by decide) rfl (fun ls hl => ?_)
                have join310 : ∀ (z : Int), (z = srv σ) →  ∀ (H : Heap) (locs : List Loc), Wd D A s (uW cI cC cS h hn adn hsn ads hh har hw adw σ ς hs ha η dp τ kd am sd q u) H locs → ∀ ls : Array Slot, lv_has ls 10 [(0, .ref h), (1, .int (jj x)), (2, .int (jj (σ 0))), (3, .int (jj wt)), (4, .int (jj br)), (5, .int (jj 1)), (6, .int (jj (wtu σ))), (7, .int (jj (pyu σ 0)))] → W pr l en rL_holds s m args below meth c H locs 0 0 (MQ below (Qi D (tz cI cC cS) (bI True) (uW cI cC cS h hn adn hsn ads hh har hw adw σ ς hs ha η dp τ kd am sd q u) A) args s 0 0 A) (F0 m 310 ls [.int (jj z)]) := by
                  intro z hz H locs w ls hl
                  refine q_istore (lv' := [(8, .int (jj z)), (0, .ref h), (1, .int (jj x)), (2, .int (jj (σ 0))), (3, .int (jj wt)), (4, .int (jj br)), (5, .int (jj 1)), (6, .int (jj (wtu σ))), (7, .int (jj (pyu σ 0)))]) C hl dL_holds_310 (by decide) rfl (fun ls hl => ?_)
                  refine q_iload C hl dL_holds_312 0 rfl ?_
                  refine q_aload_n C hl dL_holds_314 rfl 1 rfl ?_
                  refine q_bipush C dL_holds_315 (by decide) ?_
                  refine q_runi C w fr_all (q_V (As := [.int (jj 15)]) (rest := [.int (jj z)]) C w fr_all fX3_count gL_holds_X3_count rfl ⟨Nat.le_of_ble_eq_true rfl, Nat.le_of_ble_eq_true rfl⟩ (kX3_count l D cI cC cS h hn adn hsn ads hh har hw adw σ ς hs ha η dp τ kd am sd q u 15 bY (by omega) _) (q0 := 0) rfl rfl rfl rfl hl (Nat.le_of_ble_eq_true rfl) dL_holds_317 ⟨Nat.le_refl 0, Nat.le_refl 0⟩) (fun H locs w => ?_)
                  rw [show (cnu σ dp (q 1) 15) = σ 12 from cnu_15 _ _ _]
                  refine q_imul C dL_holds_320 ?_
                  refine q_istore (lv' := [(9, .int (jj (z * (σ 12)))), (8, .int (jj z)), (0, .ref h), (1, .int (jj x)), (2, .int (jj (σ 0))), (3, .int (jj wt)), (4, .int (jj br)), (5, .int (jj 1)), (6, .int (jj (wtu σ))), (7, .int (jj (pyu σ 0)))]) C hl dL_holds_321 (by decide) rfl (fun ls hl => ?_)
                  refine q_iload C hl dL_holds_323 7 rfl ?_
                  refine q_if_eq (tgt := 390) C dL_holds_325 (by decide) ⟨by omega, by omega⟩ (fun z => absurd z (by omega)) (fun _ => ?_)
                  refine q_iload_n C hl dL_holds_328 rfl 4 rfl ?_
                  refine q_if_ne (tgt := 342) C dL_holds_329 (by decide) ⟨by omega, by omega⟩ (fun c5 => ?_) (fun c5 => ?_)
                  · have c5 := c5
                    obtain ⟨y0, y1, y2, y3, y4, y5, y6, y7, y8, y9⟩ := pyu_0 bY c5
                    have hzz : z * σ 12 = srv σ * σ 12 := by rw [hz]
                    have yc : σ (13 + 6 * pyu σ 0 + 3) = σ (13 + 6 * dri σ (srv σ) + 3) := by rw [y0]
                    refine q_iload C hl dL_holds_342 9 rfl ?_
                    refine q_if_lt (tgt := 390) C dL_holds_344 (by decide) ⟨by omega, by omega⟩ (fun c6 => ?_) (fun c6 => ?_)
                    · exact absurd c6 (by omega)
                    · have c6 := c6
                      refine q_iload C hl dL_holds_347 9 rfl ?_
                      refine q_iload C hl dL_holds_349 1 rfl ?_
                      refine q_icmp_ge (tgt := 390) C dL_holds_351 (by decide) ⟨by omega, by omega⟩ ⟨by omega, by omega⟩ (fun c7 => ?_) (fun c7 => ?_)
                      · exact absurd c7 (by omega)
                      · have c7 := c7
                        refine q_aload_n C hl dL_holds_354 rfl 2 rfl ?_
                        refine q_iconst C dL_holds_355 ?_
                        refine q_runi C w fr_all (q_V (As := [.int (jj 1)]) (rest := []) C w fr_all fX3_payer gL_holds_X3_payer rfl ⟨Nat.le_of_ble_eq_true rfl, Nat.le_of_ble_eq_true rfl⟩ (kX3_payer l D cI cC cS h hn adn hsn ads hh har hw adw σ ς hs ha η dp τ kd am sd q u 1 bY (by omega) _) (q0 := 0) rfl rfl rfl rfl hl (Nat.le_of_ble_eq_true rfl) dL_holds_356 ⟨Nat.le_refl 0, Nat.le_refl 0⟩) (fun H locs w => ?_)
                        rw [show (pyu σ 1) = cpd σ from y1]
                        refine q_iload C hl dL_holds_359 0 rfl ?_
                        refine q_aload_n C hl dL_holds_361 rfl 2 rfl ?_
                        refine q_iload C hl dL_holds_362 9 rfl ?_
                        refine q_iconst C dL_holds_364 ?_
                        refine q_runi C w fr_all (q_V (As := [.int (jj (pyu σ 0)), .int (jj 3)]) (rest := [.int (jj (z * (σ 12))), .int (jj (cpd σ))]) C w fr_all fX3_person gL_holds_X3_person rfl ⟨Nat.le_of_ble_eq_true rfl, Nat.le_of_ble_eq_true rfl⟩ (kX3_person l D cI cC cS h hn adn hsn ads hh har hw adw σ ς hs ha η dp τ kd am sd q u (pyu σ 0) 3 bY (by omega) (by omega) _) (q0 := 0) rfl rfl rfl rfl hl (Nat.le_of_ble_eq_true rfl) dL_holds_365 ⟨Nat.le_refl 0, Nat.le_refl 0⟩) (fun H locs w => ?_)
                        rw [show (psu σ (pyu σ 0) 3) = σ (13 + 6 * pyu σ 0 + 3) from psu_k (by omega) (by omega) (by omega) (by omega)]
                        refine q_icmp_ge (tgt := 376) C dL_holds_368 (by decide) ⟨by omega, by omega⟩ ⟨by omega, by omega⟩ (fun c8 => ?_) (fun c8 => ?_)
                        · have c8 := c8
                          refine q_aload_n C hl dL_holds_376 rfl 2 rfl ?_
                          refine q_iload C hl dL_holds_377 9 rfl ?_
                          refine q_iconst C dL_holds_379 ?_
                          refine q_runi C w fr_all (q_V (As := [.int (jj (pyu σ 0)), .int (jj 3)]) (rest := [.int (jj (cpd σ))]) C w fr_all fX3_person gL_holds_X3_person rfl ⟨Nat.le_of_ble_eq_true rfl, Nat.le_of_ble_eq_true rfl⟩ (kX3_person l D cI cC cS h hn adn hsn ads hh har hw adw σ ς hs ha η dp τ kd am sd q u (pyu σ 0) 3 bY (by omega) (by omega) _) (q0 := 0) rfl rfl rfl rfl hl (Nat.le_of_ble_eq_true rfl) dL_holds_380 ⟨Nat.le_refl 0, Nat.le_refl 0⟩) (fun H locs w => ?_)
                          rw [show (psu σ (pyu σ 0) 3) = σ (13 + 6 * pyu σ 0 + 3) from psu_k (by omega) (by omega) (by omega) (by omega)]
                          refine q_icmpN (tgt := 390) C dL_holds_383 (by decide) (by omega) ?_
                          refine q_iconst C dL_holds_386 ?_
                          refine q_goto (tgt := 391) C dL_holds_387 (by decide) ?_
                          exact q_zret C w dL_holds_391 (bI_t trivial).symm rfl
                        · have c8 := c8
                          refine q_iload C hl dL_holds_371 0 rfl ?_
                          refine q_goto (tgt := 383) C dL_holds_373 (by decide) ?_
                          refine q_icmpN (tgt := 390) C dL_holds_383 (by decide) (by omega) ?_
                          refine q_iconst C dL_holds_386 ?_
                          refine q_goto (tgt := 391) C dL_holds_387 (by decide) ?_
                          exact q_zret C w dL_holds_391 (bI_t trivial).symm rfl
                  · have c5 := c5
                    have h00 : σ 0 = 0 := c5
                    refine q_iload C hl dL_holds_332 9 rfl ?_
                    refine q_bipush C dL_holds_334 (by decide) ?_
                    refine q_icmpN (tgt := 390) C dL_holds_336 (by decide) (pyu_e h00 0 (by omega)) ?_
                    refine q_goto (tgt := 386) C dL_holds_339 (by decide) ?_
                    refine q_iconst C dL_holds_386 ?_
                    refine q_goto (tgt := 391) C dL_holds_387 (by decide) ?_
                    exact q_zret C w dL_holds_391 (bI_t trivial).symm rfl
                refine q_aload_n C hl dL_holds_290 rfl 1 rfl ?_
                refine q_bipush C dL_holds_291 (by decide) ?_
                refine q_runi C w fr_all (q_V (As := [.int (jj 14)]) (rest := []) C w fr_all fX3_count gL_holds_X3_count rfl ⟨Nat.le_of_ble_eq_true rfl, Nat.le_of_ble_eq_true rfl⟩ (kX3_count l D cI cC cS h hn adn hsn ads hh har hw adw σ ς hs ha η dp τ kd am sd q u 14 bY (by omega) _) (q0 := 0) rfl rfl rfl rfl hl (Nat.le_of_ble_eq_true rfl) dL_holds_293 ⟨Nat.le_refl 0, Nat.le_refl 0⟩) (fun H locs w => ?_)
                rw [show (cnu σ dp (q 1) 14) = σ 11 from cnu_14 _ _ _]
                refine q_iload_n C hl dL_holds_296 rfl 3 rfl ?_
                refine q_icmp_ge (tgt := 309) C dL_holds_297 (by decide) ⟨by omega, by omega⟩ ⟨by omega, by omega⟩ (fun c9 => ?_) (fun c9 => ?_)
                · have c9 := c9
                  refine q_iload_n C hl dL_holds_309 rfl 3 rfl ?_
                  exact join310 (σ 0) (by unfold srv; omega) _ _ w ls (lv_sub hl [1, 2, 3, 4, 5, 6, 7, 0] rfl)
                · have c9 := c9
                  refine q_aload_n C hl dL_holds_300 rfl 1 rfl ?_
                  refine q_bipush C dL_holds_301 (by decide) ?_
                  refine q_runi C w fr_all (q_V (As := [.int (jj 14)]) (rest := []) C w fr_all fX3_count gL_holds_X3_count rfl ⟨Nat.le_of_ble_eq_true rfl, Nat.le_of_ble_eq_true rfl⟩ (kX3_count l D cI cC cS h hn adn hsn ads hh har hw adw σ ς hs ha η dp τ kd am sd q u 14 bY (by omega) _) (q0 := 0) rfl rfl rfl rfl hl (Nat.le_of_ble_eq_true rfl) dL_holds_303 ⟨Nat.le_refl 0, Nat.le_refl 0⟩) (fun H locs w => ?_)
                  rw [show (cnu σ dp (q 1) 14) = σ 11 from cnu_14 _ _ _]
                  refine q_goto (tgt := 310) C dL_holds_306 (by decide) ?_
                  exact join310 (σ 11) (by unfold srv; omega) _ _ w ls (lv_sub hl [1, 2, 3, 4, 5, 6, 7, 0] rfl)
              · have c3 := c3
                refine q_iload C hl dL_holds_224 5 rfl ?_
                refine q_if_eq (tgt := 283) C dL_holds_226 (by decide) ⟨by omega, by omega⟩ (fun z => absurd z (by omega)) (fun _ => ?_)
                have hEj := hE j hj0 (by omega)
                have hEw := hE (wtu σ) (by omega) (by omega)
                have hwj := (wtu_c bY (by omega)).2.2 j hj0 (by omega)
                have join270 :   ∀ (H : Heap) (locs : List Loc), Wd D A s (uW cI cC cS h hn adn hsn ads hh har hw adw σ ς hs ha η dp τ kd am sd q u) H locs → ∀ ls : Array Slot, lv_has ls 10 [(0, .ref h), (1, .int (jj x)), (2, .int (jj (σ 0))), (3, .int (jj wt)), (4, .int (jj br)), (5, .int (jj 1)), (6, .int (jj (wtu σ))), (7, .int (jj j))] → W pr l en rL_holds s m args below meth c H locs 0 0 (MQ below (Qi D (tz cI cC cS) (bI True) (uW cI cC cS h hn adn hsn ads hh har hw adw σ ς hs ha η dp τ kd am sd q u) A) args s 0 0 A) (F0 m 270 ls []) := by
                  intro   H locs w ls hl
                  refine q_iconst C dL_holds_270 ?_
                  refine q_goto (tgt := 275) C dL_holds_271 (by decide) ?_
                  refine q_istore (lv' := [(5, .int (jj 1)), (0, .ref h), (1, .int (jj x)), (2, .int (jj (σ 0))), (3, .int (jj wt)), (4, .int (jj br)), (6, .int (jj (wtu σ))), (7, .int (jj j))]) C hl dL_holds_275 (by decide) rfl (fun ls hl => ?_)
                  refine q_iinc (lv' := [(7, .int (jj (j + 1))), (5, .int (jj 1)), (0, .ref h), (1, .int (jj x)), (2, .int (jj (σ 0))), (3, .int (jj wt)), (4, .int (jj br)), (6, .int (jj (wtu σ)))]) C hl dL_holds_277 7 rfl (by decide) rfl (fun ls hl => ?_)
                  refine q_goto (tgt := 218) C dL_holds_280 (by decide) ?_
                  exact ih218 (j + 1) (by omega) (by omega) (by omega) _ _ w ls (lv_sub hl [2, 3, 4, 5, 6, 1, 7, 0] rfl)
                refine q_aload_n C hl dL_holds_229 rfl 0 rfl ?_
                refine q_iload C hl dL_holds_230 7 rfl ?_
                refine q_iconst C dL_holds_232 ?_
                refine q_runi C w fr_all (q_V (As := [.int (jj j), .int (jj 1)]) (rest := []) C w fr_all fX3_person gL_holds_X3_person rfl ⟨Nat.le_of_ble_eq_true rfl, Nat.le_of_ble_eq_true rfl⟩ (kX3_person l D cI cC cS h hn adn hsn ads hh har hw adw σ ς hs ha η dp τ kd am sd q u j 1 bY (by omega) (by omega) _) (q0 := 0) rfl rfl rfl rfl hl (Nat.le_of_ble_eq_true rfl) dL_holds_233 ⟨Nat.le_refl 0, Nat.le_refl 0⟩) (fun H locs w => ?_)
                rw [show (psu σ j 1) = σ (13 + 6 * j + 1) from psu_k (by omega) (by omega) (by omega) (by omega)]
                refine q_aload_n C hl dL_holds_236 rfl 0 rfl ?_
                refine q_iload C hl dL_holds_237 6 rfl ?_
                refine q_iconst C dL_holds_239 ?_
                refine q_runi C w fr_all (q_V (As := [.int (jj (wtu σ)), .int (jj 1)]) (rest := [.int (jj (σ (13 + 6 * j + 1)))]) C w fr_all fX3_person gL_holds_X3_person rfl ⟨Nat.le_of_ble_eq_true rfl, Nat.le_of_ble_eq_true rfl⟩ (kX3_person l D cI cC cS h hn adn hsn ads hh har hw adw σ ς hs ha η dp τ kd am sd q u (wtu σ) 1 bY (by omega) (by omega) _) (q0 := 0) rfl rfl rfl rfl hl (Nat.le_of_ble_eq_true rfl) dL_holds_240 ⟨Nat.le_refl 0, Nat.le_refl 0⟩) (fun H locs w => ?_)
                rw [show (psu σ (wtu σ) 1) = σ (13 + 6 * wtu σ + 1) from psu_k (by omega) (by omega) (by omega) (by omega)]
                refine q_icmp_lt (tgt := 270) C dL_holds_243 (by decide) ⟨by omega, by omega⟩ ⟨by omega, by omega⟩ (fun c11 => ?_) (fun c11 => ?_)
                · have c11 := c11
                  exact join270   _ _ w ls (lv_sub hl [0, 1, 2, 3, 4, 5, 6, 7] rfl)
                · have c11 := c11
                  refine q_iload C hl dL_holds_246 7 rfl ?_
                  refine q_iload C hl dL_holds_248 6 rfl ?_
                  refine q_icmp_lt (tgt := 274) C dL_holds_250 (by decide) ⟨by omega, by omega⟩ ⟨by omega, by omega⟩ (fun c12 => ?_) (fun c12 => ?_)
                  · exact absurd (hwj.2 c12) (by omega)
                  · have c12 := c12
                    refine q_aload_n C hl dL_holds_253 rfl 0 rfl ?_
                    refine q_iload C hl dL_holds_254 7 rfl ?_
                    refine q_iconst C dL_holds_256 ?_
                    refine q_runi C w fr_all (q_V (As := [.int (jj j), .int (jj 1)]) (rest := []) C w fr_all fX3_person gL_holds_X3_person rfl ⟨Nat.le_of_ble_eq_true rfl, Nat.le_of_ble_eq_true rfl⟩ (kX3_person l D cI cC cS h hn adn hsn ads hh har hw adw σ ς hs ha η dp τ kd am sd q u j 1 bY (by omega) (by omega) _) (q0 := 0) rfl rfl rfl rfl hl (Nat.le_of_ble_eq_true rfl) dL_holds_257 ⟨Nat.le_refl 0, Nat.le_refl 0⟩) (fun H locs w => ?_)
                    rw [show (psu σ j 1) = σ (13 + 6 * j + 1) from psu_k (by omega) (by omega) (by omega) (by omega)]
                    refine q_aload_n C hl dL_holds_260 rfl 0 rfl ?_
                    refine q_iload C hl dL_holds_261 6 rfl ?_
                    refine q_iconst C dL_holds_263 ?_
                    refine q_runi C w fr_all (q_V (As := [.int (jj (wtu σ)), .int (jj 1)]) (rest := [.int (jj (σ (13 + 6 * j + 1)))]) C w fr_all fX3_person gL_holds_X3_person rfl ⟨Nat.le_of_ble_eq_true rfl, Nat.le_of_ble_eq_true rfl⟩ (kX3_person l D cI cC cS h hn adn hsn ads hh har hw adw σ ς hs ha η dp τ kd am sd q u (wtu σ) 1 bY (by omega) (by omega) _) (q0 := 0) rfl rfl rfl rfl hl (Nat.le_of_ble_eq_true rfl) dL_holds_264 ⟨Nat.le_refl 0, Nat.le_refl 0⟩) (fun H locs w => ?_)
                    rw [show (psu σ (wtu σ) 1) = σ (13 + 6 * wtu σ + 1) from psu_k (by omega) (by omega) (by omega) (by omega)]
                    refine q_icmpN (tgt := 274) C dL_holds_267 (by decide) (by have := hwj.1; omega) ?_
                    exact join270   _ _ w ls (lv_sub hl [0, 1, 2, 3, 4, 5, 6, 7] rfl)
          exact loop218 _ 0 (by omega) (by omega) (Nat.lt_succ_self _) _ _ w ls (lv_sub hl [2, 3, 4, 5, 6, 1, 7, 0] rfl)
        refine q_iload C hl dL_holds_184 0 rfl ?_
        refine q_bipush C dL_holds_186 (by decide) ?_
        refine q_icmp_ne (tgt := 195) C dL_holds_188 (by decide) ⟨by omega, by omega⟩ ⟨by omega, by omega⟩ (fun c13 => ?_) (fun c13 => ?_)
        · have c13 := c13
          refine q_iconst C dL_holds_195 ?_
          refine q_iload_n C hl dL_holds_196 rfl 3 rfl ?_
          refine q_if_ne (tgt := 204) C dL_holds_197 (by decide) ⟨by omega, by omega⟩ (fun c14 => ?_) (fun c14 => ?_)
          · have c14 := c14
            refine q_iconst C dL_holds_204 ?_
            refine q_icmpN (tgt := 212) C dL_holds_205 (by decide) (by omega) ?_
            exact join208   _ _ w ls (lv_sub hl [1, 2, 3, 4, 5, 6, 0] rfl)
          · have c14 := c14
            refine q_iconst C dL_holds_200 ?_
            refine q_goto (tgt := 205) C dL_holds_201 (by decide) ?_
            refine q_icmpN (tgt := 212) C dL_holds_205 (by decide) (by omega) ?_
            exact join208   _ _ w ls (lv_sub hl [1, 2, 3, 4, 5, 6, 0] rfl)
        · have c13 := c13
          refine q_iconst C dL_holds_191 ?_
          refine q_goto (tgt := 196) C dL_holds_192 (by decide) ?_
          refine q_iload_n C hl dL_holds_196 rfl 3 rfl ?_
          refine q_if_ne (tgt := 204) C dL_holds_197 (by decide) ⟨by omega, by omega⟩ (fun c15 => ?_) (fun c15 => ?_)
          · have c15 := c15
            refine q_iconst C dL_holds_204 ?_
            refine q_icmpN (tgt := 212) C dL_holds_205 (by decide) (by omega) ?_
            exact join208   _ _ w ls (lv_sub hl [1, 2, 3, 4, 5, 6, 0] rfl)
          · have c15 := c15
            refine q_iconst C dL_holds_200 ?_
            refine q_goto (tgt := 205) C dL_holds_201 (by decide) ?_
            refine q_icmpN (tgt := 212) C dL_holds_205 (by decide) (by omega) ?_
            exact join208   _ _ w ls (lv_sub hl [1, 2, 3, 4, 5, 6, 0] rfl)
      · have c1 := c1
        refine q_iload C hl dL_holds_64 5 rfl ?_
        refine q_if_eq (tgt := 150) C dL_holds_66 (by decide) ⟨by omega, by omega⟩ (fun z => absurd z (by omega)) (fun _ => ?_)
        refine q_aload_n C hl dL_holds_69 rfl 0 rfl ?_
        refine q_iload C hl dL_holds_70 6 rfl ?_
        refine q_iload_n C hl dL_holds_72 rfl 1 rfl ?_
        refine q_iload C hl dL_holds_73 6 rfl ?_
        refine q_iadd C dL_holds_75 ?_
        refine q_runi C w fr_all (q_S (As := [.ref h, .int (jj i), .int (jj (x + i))]) (rest := []) C w fr_all fL_isPerson gL_holds_L_isPerson ⟨Nat.le_of_ble_eq_true rfl, Nat.le_of_ble_eq_true rfl⟩ (kL_isPerson l D cI cC cS h hn adn hsn ads hh har hw adw σ ς hs ha η dp τ kd am sd q u i (x + i) bJ ⟨by omega, by omega⟩ _) rfl rfl hl (Nat.le_of_ble_eq_true rfl) dL_holds_76 ⟨Nat.le_refl 0, Nat.le_refl 0⟩) (fun H locs w => ?_)
        refine q_ifz_eq (tgt := 110) C dL_holds_79 (by decide) (fun z => absurd trivial z) (fun _ => ?_)
        have hid := id_b bY hi0 (by omega)
        have join106 :   ∀ (H : Heap) (locs : List Loc), Wd D A s (uW cI cC cS h hn adn hsn ads hh har hw adw σ ς hs ha η dp τ kd am sd q u) H locs → ∀ ls : Array Slot, lv_has ls 10 [(0, .ref h), (1, .int (jj x)), (2, .int (jj (σ 0))), (3, .int (jj wt)), (4, .int (jj br)), (5, .int (jj 1)), (6, .int (jj i))] → W pr l en rL_holds s m args below meth c H locs 0 0 (MQ below (Qi D (tz cI cC cS) (bI True) (uW cI cC cS h hn adn hsn ads hh har hw adw σ ς hs ha η dp τ kd am sd q u) A) args s 0 0 A) (F0 m 106 ls []) := by
          intro   H locs w ls hl
          refine q_iconst C dL_holds_106 ?_
          refine q_goto (tgt := 111) C dL_holds_107 (by decide) ?_
          refine q_istore (lv' := [(5, .int (jj 1)), (0, .ref h), (1, .int (jj x)), (2, .int (jj (σ 0))), (3, .int (jj wt)), (4, .int (jj br)), (6, .int (jj i))]) C hl dL_holds_111 (by decide) rfl (fun ls hl => ?_)
          have hrb := rch_b σ i hn_
          refine q_iload_n C hl dL_holds_113 rfl 4 rfl ?_
          refine q_aload_n C hl dL_holds_114 rfl 1 rfl ?_
          refine q_iload C hl dL_holds_115 6 rfl ?_
          refine q_iconst C dL_holds_117 ?_
          refine q_runi C w fr_all (q_V (As := [.int (jj i), .int (jj 1)]) (rest := [.int (jj wt)]) C w fr_all fX3_person gL_holds_X3_person rfl ⟨Nat.le_of_ble_eq_true rfl, Nat.le_of_ble_eq_true rfl⟩ (kX3_person l D cI cC cS h hn adn hsn ads hh har hw adw σ ς hs ha η dp τ kd am sd q u i 1 bY (by omega) (by omega) _) (q0 := 0) rfl rfl rfl rfl hl (Nat.le_of_ble_eq_true rfl) dL_holds_118 ⟨Nat.le_refl 0, Nat.le_refl 0⟩) (fun H locs w => ?_)
          rw [show (psu σ i 1) = σ (13 + 6 * i + 1) from psu_k (by omega) (by omega) (by omega) (by omega)]
          refine q_iadd C dL_holds_121 ?_
          refine q_istore_n (lv' := [(3, .int (jj (wt + (σ (13 + 6 * i + 1))))), (5, .int (jj 1)), (0, .ref h), (1, .int (jj x)), (2, .int (jj (σ 0))), (4, .int (jj br)), (6, .int (jj i))]) C hl dL_holds_122 rfl (by decide) rfl (fun ls hl => ?_)
          refine q_iload C hl dL_holds_123 5 rfl ?_
          refine q_aload_n C hl dL_holds_125 rfl 2 rfl ?_
          refine q_iload C hl dL_holds_126 6 rfl ?_
          refine q_bipush C dL_holds_128 (by decide) ?_
          refine q_runi C w fr_all (q_V (As := [.int (jj i), .int (jj 7)]) (rest := [.int (jj br)]) C w fr_all fX3_person gL_holds_X3_person rfl ⟨Nat.le_of_ble_eq_true rfl, Nat.le_of_ble_eq_true rfl⟩ (kX3_person l D cI cC cS h hn adn hsn ads hh har hw adw σ ς hs ha η dp τ kd am sd q u i 7 bY (by omega) (by omega) _) (q0 := 0) rfl rfl rfl rfl hl (Nat.le_of_ble_eq_true rfl) dL_holds_130 ⟨Nat.le_refl 0, Nat.le_refl 0⟩) (fun H locs w => ?_)
          rw [show (psu σ i 7) = rch σ i (σ 0) from psu_7 (by omega) (by omega)]
          refine q_if_ne (tgt := 140) C dL_holds_133 (by decide) ⟨by omega, by omega⟩ (fun c18 => ?_) (fun c18 => ?_)
          · have c18 := c18
            refine q_iconst C dL_holds_140 ?_
            refine q_iadd C dL_holds_141 ?_
            refine q_istore (lv' := [(4, .int (jj (br + 0))), (3, .int (jj (wt + (σ (13 + 6 * i + 1))))), (5, .int (jj 1)), (0, .ref h), (1, .int (jj x)), (2, .int (jj (σ 0))), (6, .int (jj i))]) C hl dL_holds_142 (by decide) rfl (fun ls hl => ?_)
            refine q_iinc (lv' := [(6, .int (jj (i + 1))), (4, .int (jj (br + 0))), (3, .int (jj (wt + (σ (13 + 6 * i + 1))))), (5, .int (jj 1)), (0, .ref h), (1, .int (jj x)), (2, .int (jj (σ 0)))]) C hl dL_holds_144 6 rfl (by decide) rfl (fun ls hl => ?_)
            refine q_goto (tgt := 58) C dL_holds_147 (by decide) ?_
            exact ih58 (i + 1) (wt + (σ (13 + 6 * i + 1))) (br + 0) (by omega) (by omega) (by rw [swf_s σ hi0, hwt]) (by rw [unf_s σ hi0, hbr]; first | rw [bI_t (by omega)] | rw [bI_f (by omega)]) (by omega) _ _ w ls (lv_sub hl [4, 5, 6, 2, 1, 3, 0] rfl)
          · have c18 := c18
            refine q_iconst C dL_holds_136 ?_
            refine q_goto (tgt := 141) C dL_holds_137 (by decide) ?_
            refine q_iadd C dL_holds_141 ?_
            refine q_istore (lv' := [(4, .int (jj (br + 1))), (3, .int (jj (wt + (σ (13 + 6 * i + 1))))), (5, .int (jj 1)), (0, .ref h), (1, .int (jj x)), (2, .int (jj (σ 0))), (6, .int (jj i))]) C hl dL_holds_142 (by decide) rfl (fun ls hl => ?_)
            refine q_iinc (lv' := [(6, .int (jj (i + 1))), (4, .int (jj (br + 1))), (3, .int (jj (wt + (σ (13 + 6 * i + 1))))), (5, .int (jj 1)), (0, .ref h), (1, .int (jj x)), (2, .int (jj (σ 0)))]) C hl dL_holds_144 6 rfl (by decide) rfl (fun ls hl => ?_)
            refine q_goto (tgt := 58) C dL_holds_147 (by decide) ?_
            exact ih58 (i + 1) (wt + (σ (13 + 6 * i + 1))) (br + 1) (by omega) (by omega) (by rw [swf_s σ hi0, hwt]) (by rw [unf_s σ hi0, hbr]; first | rw [bI_t (by omega)] | rw [bI_f (by omega)]) (by omega) _ _ w ls (lv_sub hl [4, 5, 6, 2, 1, 3, 0] rfl)
        refine q_iload C hl dL_holds_82 6 rfl ?_
        refine q_if_eq (tgt := 106) C dL_holds_84 (by decide) ⟨by omega, by omega⟩ (fun c19 => ?_) (fun c19 => ?_)
        · have c19 := c19
          exact join106   _ _ w ls (lv_sub hl [0, 1, 2, 3, 4, 5, 6] rfl)
        · have c19 := c19
          have hid2 := id_b bY (p := i - 1) (by omega) (by omega)
          refine q_aload_n C hl dL_holds_87 rfl 0 rfl ?_
          refine q_iload C hl dL_holds_88 6 rfl ?_
          refine q_iconst C dL_holds_90 ?_
          refine q_runi C w fr_all (q_V (As := [.int (jj i), .int (jj 0)]) (rest := []) C w fr_all fX3_person gL_holds_X3_person rfl ⟨Nat.le_of_ble_eq_true rfl, Nat.le_of_ble_eq_true rfl⟩ (kX3_person l D cI cC cS h hn adn hsn ads hh har hw adw σ ς hs ha η dp τ kd am sd q u i 0 bY (by omega) (by omega) _) (q0 := 0) rfl rfl rfl rfl hl (Nat.le_of_ble_eq_true rfl) dL_holds_91 ⟨Nat.le_refl 0, Nat.le_refl 0⟩) (fun H locs w => ?_)
          rw [show (psu σ i 0) = σ (13 + 6 * i + 0) from psu_k (by omega) (by omega) (by omega) (by omega)]
          refine q_aload_n C hl dL_holds_94 rfl 0 rfl ?_
          refine q_iload C hl dL_holds_95 6 rfl ?_
          refine q_iconst C dL_holds_97 ?_
          refine q_isub C dL_holds_98 ?_
          refine q_iconst C dL_holds_99 ?_
          refine q_runi C w fr_all (q_V (As := [.int (jj (i - 1)), .int (jj 0)]) (rest := [.int (jj (σ (13 + 6 * i + 0)))]) C w fr_all fX3_person gL_holds_X3_person rfl ⟨Nat.le_of_ble_eq_true rfl, Nat.le_of_ble_eq_true rfl⟩ (kX3_person l D cI cC cS h hn adn hsn ads hh har hw adw σ ς hs ha η dp τ kd am sd q u (i - 1) 0 bY (by omega) (by omega) _) (q0 := 0) rfl rfl rfl rfl hl (Nat.le_of_ble_eq_true rfl) dL_holds_100 ⟨Nat.le_refl 0, Nat.le_refl 0⟩) (fun H locs w => ?_)
          rw [show (psu σ (i - 1) 0) = σ (13 + 6 * (i - 1) + 0) from psu_k (by omega) (by omega) (by omega) (by omega)]
          refine q_icmp_eq (tgt := 110) C dL_holds_103 (by decide) ⟨by omega, by omega⟩ ⟨by omega, by omega⟩ (fun c20 => ?_) (fun c20 => ?_)
          · exact absurd (bJ.2.1 i (i - 1) hi0 (by omega) (by omega) (by omega) c20) (by omega)
          · have c20 := c20
            exact join106   _ _ w ls (lv_sub hl [0, 1, 2, 3, 4, 5, 6] rfl)
  exact loop58 _ 0 0 0 (by omega) (by omega) rfl rfl (Nat.lt_succ_self _) _ _ w ls (lv_sub hl [5, 6, 4, 3, 2, 1, 0] rfl)
