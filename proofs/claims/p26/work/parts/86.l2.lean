def rL_isPerson : Room := { frames := 7, cells := 0, slots := 0, locals := 165 }
theorem fL_isPerson : Fc yL_isPerson wsL_isPerson rL_isPerson cL_isPerson 12 (some .boolean) 3 := ⟨⟨_, rfl⟩, rfl, rfl, by decide +kernel, by decide +kernel, by decide +kernel⟩
set_option maxHeartbeats 4000000 in
set_option maxRecDepth 10000 in
theorem kL_isPerson (l : Launch) (D : va_G) (cI cC cS : ClassId) (h hn : Nat) (adn : Nat → Nat) (hsn : Nat) (ads : Nat → Nat) (hh har hw : Nat) (adw : Nat → Nat) (σ ς : Int → Int) (hs : Nat → Nat) (ha : Nat → Nat → Nat) (η : Nat → Int → Int) (dp : Int) (τ kd am sd q u : Int → Int) (p x : Int) (bJ : Jv σ) (hp : 0 ≤ p ∧ p < σ 0) : Ki l yL_isPerson wsL_isPerson rL_isPerson D (tz cI cC cS) [.ref h, .int (jj p), .int (jj x)] (uW cI cC cS h hn adn hsn ads hh har hw adw σ ς hs ha η dp τ kd am sd q u) (bI True) (uW cI cC cS h hn adn hsn ads hh har hw adw σ ς hs ha η dp τ kd am sd q u) := by
  have bY := bJ.1
  have hW := bY.1
  have hn2 := hW.2.1
  have hn_ := hW.1
  have hq := hW.2.2 p hp.1 hp.2
  have hE := bY.2.1 p hp.1 hp.2
  have hP := bY.2.2.1 p hp.1 hp.2
  have hU := bY.2.2.2.2.2.1 p hp.1 hp.2
  have hid := id_b bY hp.1 hp.2
  refine q_entry (cc := cL_isPerson) (nL := 12) (ret := (some .boolean)) (by decide) ⟨_, rfl⟩ (Nat.le_of_ble_eq_true rfl) ?_
  intro A pr en s m args below meth c C hin w ls hl
  have w := w
  have hl : lv_has ls 12 [(0, .ref h), (1, .int (jj p)), (2, .int (jj x))] := hl
  refine q_aload_n C hl dL_isPerson_0 rfl 0 rfl ?_
  refine q_iload_n C hl dL_isPerson_1 rfl 1 rfl ?_
  refine q_iconst C dL_isPerson_2 ?_
  refine q_runi C w fr_all (q_V (As := [.int (jj p), .int (jj 4)]) (rest := []) C w fr_all fX3_person gL_isPerson_X3_person rfl ⟨Nat.le_of_ble_eq_true rfl, Nat.le_of_ble_eq_true rfl⟩ (kX3_person l D cI cC cS h hn adn hsn ads hh har hw adw σ ς hs ha η dp τ kd am sd q u p 4 bY (by omega) (by omega) _) (q0 := 0) rfl rfl rfl rfl hl (Nat.le_of_ble_eq_true rfl) dL_isPerson_3 ⟨Nat.le_refl 0, Nat.le_refl 0⟩) (fun H locs w => ?_)
  rw [show (psu σ p 4) = σ (13 + 6 * p + 4) from psu_k (by omega) (by omega) (by omega) (by omega)]
  refine q_istore_n (lv' := [(3, .int (jj (σ (13 + 6 * p + 4)))), (0, .ref h), (1, .int (jj p)), (2, .int (jj x))]) C hl dL_isPerson_6 rfl (by decide) rfl (fun ls hl => ?_)
  refine q_aload_n C hl dL_isPerson_7 rfl 1 rfl ?_
  refine q_iload_n C hl dL_isPerson_8 rfl 2 rfl ?_
  refine q_iconst C dL_isPerson_9 ?_
  refine q_runi C w fr_all (q_V (As := [.int (jj p), .int (jj 5)]) (rest := []) C w fr_all fX3_person gL_isPerson_X3_person rfl ⟨Nat.le_of_ble_eq_true rfl, Nat.le_of_ble_eq_true rfl⟩ (kX3_person l D cI cC cS h hn adn hsn ads hh har hw adw σ ς hs ha η dp τ kd am sd q u p 5 bY (by omega) (by omega) _) (q0 := 0) rfl rfl rfl rfl hl (Nat.le_of_ble_eq_true rfl) dL_isPerson_10 ⟨Nat.le_refl 0, Nat.le_refl 0⟩) (fun H locs w => ?_)
  refine q_istore (lv' := [(4, .int (jj (psu σ p 5))), (3, .int (jj (σ (13 + 6 * p + 4)))), (0, .ref h), (1, .int (jj p)), (2, .int (jj x))]) C hl dL_isPerson_13 (by decide) rfl (fun ls hl => ?_)
  refine q_aload_n C hl dL_isPerson_15 rfl 2 rfl ?_
  refine q_iload_n C hl dL_isPerson_16 rfl 3 rfl ?_
  refine q_bipush C dL_isPerson_17 (by decide) ?_
  refine q_runi C w fr_all (q_V (As := [.int (jj p), .int (jj 6)]) (rest := []) C w fr_all fX3_person gL_isPerson_X3_person rfl ⟨Nat.le_of_ble_eq_true rfl, Nat.le_of_ble_eq_true rfl⟩ (kX3_person l D cI cC cS h hn adn hsn ads hh har hw adw σ ς hs ha η dp τ kd am sd q u p 6 bY (by omega) (by omega) _) (q0 := 0) rfl rfl rfl rfl hl (Nat.le_of_ble_eq_true rfl) dL_isPerson_19 ⟨Nat.le_refl 0, Nat.le_refl 0⟩) (fun H locs w => ?_)
  refine q_istore (lv' := [(5, .int (jj (psu σ p 6))), (4, .int (jj (psu σ p 5))), (3, .int (jj (σ (13 + 6 * p + 4)))), (0, .ref h), (1, .int (jj p)), (2, .int (jj x))]) C hl dL_isPerson_22 (by decide) rfl (fun ls hl => ?_)
  refine q_iconst C dL_isPerson_24 ?_
  refine q_istore (lv' := [(6, .int (jj 0)), (5, .int (jj (psu σ p 6))), (4, .int (jj (psu σ p 5))), (3, .int (jj (σ (13 + 6 * p + 4)))), (0, .ref h), (1, .int (jj p)), (2, .int (jj x))]) C hl dL_isPerson_25 (by decide) rfl (fun ls hl => ?_)
  refine q_iconst C dL_isPerson_27 ?_
  refine q_istore (lv' := [(7, .int (jj 0)), (6, .int (jj 0)), (5, .int (jj (psu σ p 6))), (4, .int (jj (psu σ p 5))), (3, .int (jj (σ (13 + 6 * p + 4)))), (0, .ref h), (1, .int (jj p)), (2, .int (jj x))]) C hl dL_isPerson_28 (by decide) rfl (fun ls hl => ?_)
  have loop30 : ∀ (n30 : Nat) (i : Int) (a : Int), (0 ≤ i) → (i ≤ σ 0) → (a = rch σ p i) → (σ 0 - i).toNat < n30 → ∀ (H : Heap) (locs : List Loc), Wd D A s (uW cI cC cS h hn adn hsn ads hh har hw adw σ ς hs ha η dp τ kd am sd q u) H locs → ∀ ls : Array Slot, lv_has ls 12 [(0, .ref h), (1, .int (jj p)), (2, .int (jj x)), (3, .int (jj (σ (13 + 6 * p + 4)))), (4, .int (jj (psu σ p 5))), (5, .int (jj (psu σ p 6))), (6, .int (jj a)), (7, .int (jj i))] → W pr l en rL_isPerson s m args below meth c H locs 0 0 (MQ below (Qi D (tz cI cC cS) (bI True) (uW cI cC cS h hn adn hsn ads hh har hw adw σ ς hs ha η dp τ kd am sd q u) A) args s 0 0 A) (F0 m 30 ls []) := by
    intro n30
    induction n30 with
    | zero => intro i a hi0 hi1 ha_ hm; exact absurd hm (Nat.not_lt_zero _)
    | succ n30 ih30 =>
      intro i a hi0 hi1 ha_ hm30 H locs w ls hl
      refine q_iload C hl dL_isPerson_30 7 rfl ?_
      refine q_aload_n C hl dL_isPerson_32 rfl 0 rfl ?_
      refine q_iconst C dL_isPerson_33 ?_
      refine q_runi C w fr_all (q_V (As := [.int (jj 0)]) (rest := [.int (jj i)]) C w fr_all fX3_count gL_isPerson_X3_count rfl ⟨Nat.le_of_ble_eq_true rfl, Nat.le_of_ble_eq_true rfl⟩ (kX3_count l D cI cC cS h hn adn hsn ads hh har hw adw σ ς hs ha η dp τ kd am sd q u 0 bY (by omega) _) (q0 := 0) rfl rfl rfl rfl hl (Nat.le_of_ble_eq_true rfl) dL_isPerson_34 ⟨Nat.le_refl 0, Nat.le_refl 0⟩) (fun H locs w => ?_)
      rw [show (cnu σ dp (q 1) 0) = σ 0 from cnu_k (by omega) (by omega)]
      refine q_icmp_ge (tgt := 66) C dL_isPerson_37 (by decide) ⟨by omega, by omega⟩ ⟨by omega, by omega⟩ (fun c1 => ?_) (fun c1 => ?_)
      · have c1 := c1
        have ei : i = σ 0 := by omega
        refine q_aload_n C hl dL_isPerson_66 rfl 0 rfl ?_
        refine q_aload_n C hl dL_isPerson_67 rfl 0 rfl ?_
        refine q_iload_n C hl dL_isPerson_68 rfl 1 rfl ?_
        refine q_iconst C dL_isPerson_69 ?_
        refine q_runi C w fr_all (q_V (As := [.int (jj p), .int (jj 0)]) (rest := [.ref h]) C w fr_all fX3_person gL_isPerson_X3_person rfl ⟨Nat.le_of_ble_eq_true rfl, Nat.le_of_ble_eq_true rfl⟩ (kX3_person l D cI cC cS h hn adn hsn ads hh har hw adw σ ς hs ha η dp τ kd am sd q u p 0 bY (by omega) (by omega) _) (q0 := 0) rfl rfl rfl rfl hl (Nat.le_of_ble_eq_true rfl) dL_isPerson_70 ⟨Nat.le_refl 0, Nat.le_refl 0⟩) (fun H locs w => ?_)
        rw [show (psu σ p 0) = σ (13 + 6 * p + 0) from psu_k (by omega) (by omega) (by omega) (by omega)]
        refine q_runi C w fr_all (q_V (As := [.int (jj (σ (13 + 6 * p + 0)))]) (rest := []) C w fr_all fX3_placeOf gL_isPerson_X3_placeOf rfl ⟨Nat.le_of_ble_eq_true rfl, Nat.le_of_ble_eq_true rfl⟩ (kX3_placeOf l D cI cC cS h hn adn hsn ads hh har hw adw σ ς hs ha η dp τ kd am sd q u (σ (13 + 6 * p + 0)) bY (by omega) _) (q0 := 0) rfl rfl rfl rfl hl (Nat.le_of_ble_eq_true rfl) dL_isPerson_73 ⟨Nat.le_refl 0, Nat.le_refl 0⟩) (fun H locs w => ?_)
        rw [show (plu σ (σ (13 + 6 * p + 0))) = p from plu_id bJ hp.1 hp.2]
        refine q_iload_n C hl dL_isPerson_76 rfl 1 rfl ?_
        refine q_icmpN (tgt := 185) C dL_isPerson_77 (by decide) rfl ?_
        refine q_aload_n C hl dL_isPerson_80 rfl 0 rfl ?_
        refine q_iload_n C hl dL_isPerson_81 rfl 1 rfl ?_
        refine q_iconst C dL_isPerson_82 ?_
        refine q_runi C w fr_all (q_V (As := [.int (jj p), .int (jj 1)]) (rest := []) C w fr_all fX3_person gL_isPerson_X3_person rfl ⟨Nat.le_of_ble_eq_true rfl, Nat.le_of_ble_eq_true rfl⟩ (kX3_person l D cI cC cS h hn adn hsn ads hh har hw adw σ ς hs ha η dp τ kd am sd q u p 1 bY (by omega) (by omega) _) (q0 := 0) rfl rfl rfl rfl hl (Nat.le_of_ble_eq_true rfl) dL_isPerson_83 ⟨Nat.le_refl 0, Nat.le_refl 0⟩) (fun H locs w => ?_)
        rw [show (psu σ p 1) = σ (13 + 6 * p + 1) from psu_k (by omega) (by omega) (by omega) (by omega)]
        refine q_if_lt (tgt := 185) C dL_isPerson_86 (by decide) ⟨by omega, by omega⟩ (fun c2 => ?_) (fun c2 => ?_)
        · exact absurd c2 (by omega)
        · have c2 := c2
          refine q_aload_n C hl dL_isPerson_89 rfl 0 rfl ?_
          refine q_iload_n C hl dL_isPerson_90 rfl 1 rfl ?_
          refine q_iconst C dL_isPerson_91 ?_
          refine q_runi C w fr_all (q_V (As := [.int (jj p), .int (jj 1)]) (rest := []) C w fr_all fX3_person gL_isPerson_X3_person rfl ⟨Nat.le_of_ble_eq_true rfl, Nat.le_of_ble_eq_true rfl⟩ (kX3_person l D cI cC cS h hn adn hsn ads hh har hw adw σ ς hs ha η dp τ kd am sd q u p 1 bY (by omega) (by omega) _) (q0 := 0) rfl rfl rfl rfl hl (Nat.le_of_ble_eq_true rfl) dL_isPerson_92 ⟨Nat.le_refl 0, Nat.le_refl 0⟩) (fun H locs w => ?_)
          rw [show (psu σ p 1) = σ (13 + 6 * p + 1) from psu_k (by omega) (by omega) (by omega) (by omega)]
          refine q_aload_n C hl dL_isPerson_95 rfl 0 rfl ?_
          refine q_iload_n C hl dL_isPerson_96 rfl 1 rfl ?_
          refine q_iconst C dL_isPerson_97 ?_
          refine q_runi C w fr_all (q_V (As := [.int (jj p), .int (jj 2)]) (rest := [.int (jj (σ (13 + 6 * p + 1)))]) C w fr_all fX3_person gL_isPerson_X3_person rfl ⟨Nat.le_of_ble_eq_true rfl, Nat.le_of_ble_eq_true rfl⟩ (kX3_person l D cI cC cS h hn adn hsn ads hh har hw adw σ ς hs ha η dp τ kd am sd q u p 2 bY (by omega) (by omega) _) (q0 := 0) rfl rfl rfl rfl hl (Nat.le_of_ble_eq_true rfl) dL_isPerson_98 ⟨Nat.le_refl 0, Nat.le_refl 0⟩) (fun H locs w => ?_)
          rw [show (psu σ p 2) = σ (13 + 6 * p + 2) from psu_k (by omega) (by omega) (by omega) (by omega)]
          refine q_icmp_gt (tgt := 185) C dL_isPerson_101 (by decide) ⟨by omega, by omega⟩ ⟨by omega, by omega⟩ (fun c3 => ?_) (fun c3 => ?_)
          · exact absurd c3 (by omega)
          · have c3 := c3
            refine q_aload_n C hl dL_isPerson_104 rfl 0 rfl ?_
            refine q_iload_n C hl dL_isPerson_105 rfl 1 rfl ?_
            refine q_bipush C dL_isPerson_106 (by decide) ?_
            refine q_runi C w fr_all (q_V (As := [.int (jj p), .int (jj 7)]) (rest := []) C w fr_all fX3_person gL_isPerson_X3_person rfl ⟨Nat.le_of_ble_eq_true rfl, Nat.le_of_ble_eq_true rfl⟩ (kX3_person l D cI cC cS h hn adn hsn ads hh har hw adw σ ς hs ha η dp τ kd am sd q u p 7 bY (by omega) (by omega) _) (q0 := 0) rfl rfl rfl rfl hl (Nat.le_of_ble_eq_true rfl) dL_isPerson_108 ⟨Nat.le_refl 0, Nat.le_refl 0⟩) (fun H locs w => ?_)
            rw [show (psu σ p 7) = rch σ p (σ 0) from psu_7 hp.1 hp.2]
            refine q_iload C hl dL_isPerson_111 6 rfl ?_
            refine q_icmpN (tgt := 185) C dL_isPerson_113 (by decide) (by rw [ha_, ei]) ?_
            have join181 :   ∀ (H : Heap) (locs : List Loc), Wd D A s (uW cI cC cS h hn adn hsn ads hh har hw adw σ ς hs ha η dp τ kd am sd q u) H locs → ∀ ls : Array Slot, lv_has ls 12 [(0, .ref h), (1, .int (jj p)), (2, .int (jj x)), (3, .int (jj (σ (13 + 6 * p + 4)))), (4, .int (jj (psu σ p 5))), (5, .int (jj (psu σ p 6))), (6, .int (jj a)), (7, .int (jj i))] → W pr l en rL_isPerson s m args below meth c H locs 0 0 (MQ below (Qi D (tz cI cC cS) (bI True) (uW cI cC cS h hn adn hsn ads hh har hw adw σ ς hs ha η dp τ kd am sd q u) A) args s 0 0 A) (F0 m 181 ls []) := by
              intro   H locs w ls hl
              refine q_iconst C dL_isPerson_181 ?_
              refine q_goto (tgt := 186) C dL_isPerson_182 (by decide) ?_
              refine q_istore (lv' := [(7, .int (jj 1)), (0, .ref h), (1, .int (jj p)), (2, .int (jj x)), (3, .int (jj (σ (13 + 6 * p + 4)))), (4, .int (jj (psu σ p 5))), (5, .int (jj (psu σ p 6))), (6, .int (jj a))]) C hl dL_isPerson_186 (by decide) rfl (fun ls hl => ?_)
              have hlw := lowv_b x (n := 99) (by omega)
              have hdd : 1 ≤ 1 + lowv x 99 ∧ 1 + lowv x 99 ≤ 99 := ⟨by omega, by omega⟩
              have hgg : gst (1 + lowv x 99) 0 := ⟨hdd, by omega, by omega⟩
              have hbb := And.intro (bI_lo (cov σ p 0)) (bI_hi (cov σ p 0))
              have hwt := wtr_b hW p 0 hdd.1 hdd.2
              refine q_iconst C dL_isPerson_188 ?_
              refine q_iload_n C hl dL_isPerson_189 rfl 3 rfl ?_
              refine q_bipush C dL_isPerson_190 (by decide) ?_
              refine q_runi C w fr_nil (q_S (As := [.int (jj x), .int (jj 99)]) (rest := [.int (jj 1)]) C w fr_nil fL_low gL_isPerson_L_low ⟨Nat.le_of_ble_eq_true rfl, Nat.le_of_ble_eq_true rfl⟩ (kL_low l D cI cC cS x 99 ⟨by omega, by omega⟩ _) rfl rfl hl (Nat.le_of_ble_eq_true rfl) dL_isPerson_192 ⟨Nat.le_refl 0, Nat.le_refl 0⟩) (fun H locs w => ?_)
              refine q_iadd C dL_isPerson_195 ?_
              refine q_istore (lv' := [(8, .int (jj (1 + (lowv x 99)))), (7, .int (jj 1)), (0, .ref h), (1, .int (jj p)), (2, .int (jj x)), (3, .int (jj (σ (13 + 6 * p + 4)))), (4, .int (jj (psu σ p 5))), (5, .int (jj (psu σ p 6))), (6, .int (jj a))]) C hl dL_isPerson_196 (by decide) rfl (fun ls hl => ?_)
              refine q_aload_n C hl dL_isPerson_198 rfl 2 rfl ?_
              refine q_iload_n C hl dL_isPerson_199 rfl 3 rfl ?_
              refine q_iload C hl dL_isPerson_200 0 rfl ?_
              refine q_runi C w fr_all (q_V (As := [.int (jj p), .int (jj (1 + (lowv x 99)))]) (rest := []) C w fr_all fX3_bears gL_isPerson_X3_bears rfl ⟨Nat.le_of_ble_eq_true rfl, Nat.le_of_ble_eq_true rfl⟩ (kX3_bears l D cI cC cS h hn adn hsn ads hh har hw adw σ ς hs ha η dp τ kd am sd q u p (1 + (lowv x 99)) bY (by omega) (by omega) _) (q0 := 0) rfl rfl rfl rfl hl (Nat.le_of_ble_eq_true rfl) dL_isPerson_202 ⟨Nat.le_refl 0, Nat.le_refl 0⟩) (fun H locs w => ?_)
              refine q_istore (lv' := [(9, .int (jj (beu σ p (1 + (lowv x 99))))), (8, .int (jj (1 + (lowv x 99)))), (7, .int (jj 1)), (0, .ref h), (1, .int (jj p)), (2, .int (jj x)), (3, .int (jj (σ (13 + 6 * p + 4)))), (4, .int (jj (psu σ p 5))), (5, .int (jj (psu σ p 6))), (6, .int (jj a))]) C hl dL_isPerson_205 (by decide) rfl (fun ls hl => ?_)
              have join226 : ∀ (z : Int), (z = if cov σ p 0 then 0 else 1 + lowv x 99) →  ∀ (H : Heap) (locs : List Loc), Wd D A s (uW cI cC cS h hn adn hsn ads hh har hw adw σ ς hs ha η dp τ kd am sd q u) H locs → ∀ ls : Array Slot, lv_has ls 12 [(0, .ref h), (1, .int (jj p)), (2, .int (jj x)), (3, .int (jj (σ (13 + 6 * p + 4)))), (4, .int (jj (psu σ p 5))), (5, .int (jj (psu σ p 6))), (6, .int (jj a)), (7, .int (jj 1)), (8, .int (jj (1 + (lowv x 99)))), (9, .int (jj (beu σ p (1 + (lowv x 99)))))] → W pr l en rL_isPerson s m args below meth c H locs 0 0 (MQ below (Qi D (tz cI cC cS) (bI True) (uW cI cC cS h hn adn hsn ads hh har hw adw σ ς hs ha η dp τ kd am sd q u) A) args s 0 0 A) (F0 m 226 ls [.int (jj z)]) := by
                intro z hz H locs w ls hl
                refine q_istore (lv' := [(10, .int (jj z)), (0, .ref h), (1, .int (jj p)), (2, .int (jj x)), (3, .int (jj (σ (13 + 6 * p + 4)))), (4, .int (jj (psu σ p 5))), (5, .int (jj (psu σ p 6))), (6, .int (jj a)), (7, .int (jj 1)), (8, .int (jj (1 + (lowv x 99)))), (9, .int (jj (beu σ p (1 + (lowv x 99)))))]) C hl dL_isPerson_226 (by decide) rfl (fun ls hl => ?_)
                refine q_iload C hl dL_isPerson_228 0 rfl ?_
                refine q_aload_n C hl dL_isPerson_230 rfl 1 rfl ?_
                refine q_iload_n C hl dL_isPerson_231 rfl 2 rfl ?_
                refine q_iload C hl dL_isPerson_232 9 rfl ?_
                refine q_iconst C dL_isPerson_234 ?_
                refine q_iconst C dL_isPerson_235 ?_
                refine q_runi C w fr_all (q_V (As := [.int (jj p), .int (jj (1 + (lowv x 99))), .int (jj 0), .int (jj 1)]) (rest := [.int (jj z)]) C w fr_all fX3_ifGust gL_isPerson_X3_ifGust rfl ⟨Nat.le_of_ble_eq_true rfl, Nat.le_of_ble_eq_true rfl⟩ (kX3_ifGust l D cI cC cS h hn adn hsn ads hh har hw adw σ ς hs ha η dp τ kd am sd q u p (1 + (lowv x 99)) 0 1 bY (by omega) (by omega) (by omega) (by omega) _) (q0 := 0) rfl rfl rfl rfl hl (Nat.le_of_ble_eq_true rfl) dL_isPerson_236 ⟨Nat.le_refl 0, Nat.le_refl 0⟩) (fun H locs w => ?_)
                rw [show (ifu σ p (1 + (lowv x 99)) 0 1) = rnf σ p (σ 0) from ifu_1 hp.1 hp.2 hgg]
                refine q_iload C hl dL_isPerson_239 9 rfl ?_
                refine q_iconst C dL_isPerson_241 ?_
                refine q_idiv C dL_isPerson_242 ⟨by omega, by omega⟩ ⟨by omega, by omega⟩ ?_
                refine q_imul C dL_isPerson_243 ?_
                refine q_iadd C dL_isPerson_244 ?_
                rw [show (z + ((rnf σ p (σ 0)) * ((1 + (lowv x 99)) / 2))) = wtr σ p (1 + lowv x 99) 0 from (by unfold wtr; rw [hz])]
                refine q_istore (lv' := [(10, .int (jj (wtr σ p (1 + lowv x 99) 0))), (0, .ref h), (1, .int (jj p)), (2, .int (jj x)), (3, .int (jj (σ (13 + 6 * p + 4)))), (4, .int (jj (psu σ p 5))), (5, .int (jj (psu σ p 6))), (6, .int (jj a)), (7, .int (jj 1)), (8, .int (jj (1 + (lowv x 99)))), (9, .int (jj (beu σ p (1 + (lowv x 99)))))]) C hl dL_isPerson_245 (by decide) rfl (fun ls hl => ?_)
                have join333 :   ∀ (H : Heap) (locs : List Loc), Wd D A s (uW cI cC cS h hn adn hsn ads hh har hw adw σ ς hs ha η dp τ kd am sd q u) H locs → ∀ ls : Array Slot, lv_has ls 12 [(0, .ref h), (1, .int (jj p)), (2, .int (jj x)), (3, .int (jj (σ (13 + 6 * p + 4)))), (4, .int (jj (psu σ p 5))), (5, .int (jj (psu σ p 6))), (6, .int (jj a)), (7, .int (jj 1)), (8, .int (jj (1 + (lowv x 99)))), (9, .int (jj (beu σ p (1 + (lowv x 99))))), (10, .int (jj (wtr σ p (1 + lowv x 99) 0)))] → W pr l en rL_isPerson s m args below meth c H locs 0 0 (MQ below (Qi D (tz cI cC cS) (bI True) (uW cI cC cS h hn adn hsn ads hh har hw adw σ ς hs ha η dp τ kd am sd q u) A) args s 0 0 A) (F0 m 333 ls [.int (jj 1)]) := by
                  intro   H locs w ls hl
                  refine q_istore (lv' := [(11, .int (jj 1)), (0, .ref h), (1, .int (jj p)), (2, .int (jj x)), (3, .int (jj (σ (13 + 6 * p + 4)))), (4, .int (jj (psu σ p 5))), (5, .int (jj (psu σ p 6))), (6, .int (jj a)), (7, .int (jj 1)), (8, .int (jj (1 + (lowv x 99)))), (9, .int (jj (beu σ p (1 + (lowv x 99))))), (10, .int (jj (wtr σ p (1 + lowv x 99) 0)))]) C hl dL_isPerson_333 (by decide) rfl (fun ls hl => ?_)
                  have hl3 := lowv_b (shv x) (n := 3) (by omega)
                  refine q_iload C hl dL_isPerson_335 8 rfl ?_
                  refine q_if_eq (tgt := 367) C dL_isPerson_337 (by decide) ⟨by omega, by omega⟩ (fun z => absurd z (by omega)) (fun _ => ?_)
                  refine q_iload C hl dL_isPerson_340 0 rfl ?_
                  refine q_if_eq (tgt := 367) C dL_isPerson_342 (by decide) ⟨by omega, by omega⟩ (fun z => absurd z (by omega)) (fun _ => ?_)
                  refine q_aload_n C hl dL_isPerson_345 rfl 1 rfl ?_
                  refine q_iload_n C hl dL_isPerson_346 rfl 2 rfl ?_
                  refine q_iload C hl dL_isPerson_347 9 rfl ?_
                  refine q_iload_n C hl dL_isPerson_349 rfl 3 rfl ?_
                  refine q_bipush C dL_isPerson_350 (by decide) ?_
                  refine q_shv C dL_isPerson_352 ?_
                  refine q_iconst C dL_isPerson_353 ?_
                  refine q_runi C w fr_nil (q_S (As := [.int (jj (shv x)), .int (jj 3)]) (rest := [.int (jj (1 + (lowv x 99))), .int (jj p), .ref h]) C w fr_nil fL_low gL_isPerson_L_low ⟨Nat.le_of_ble_eq_true rfl, Nat.le_of_ble_eq_true rfl⟩ (kL_low l D cI cC cS (shv x) 3 ⟨by omega, by omega⟩ _) rfl rfl hl (Nat.le_of_ble_eq_true rfl) dL_isPerson_354 ⟨Nat.le_refl 0, Nat.le_refl 0⟩) (fun H locs w => ?_)
                  refine q_runi C w fr_all (q_S (As := [.ref h, .int (jj p), .int (jj (1 + (lowv x 99))), .int (jj (lowv (shv x) 3))]) (rest := []) C w fr_all fL_isGust gL_isPerson_L_isGust ⟨Nat.le_of_ble_eq_true rfl, Nat.le_of_ble_eq_true rfl⟩ (kL_isGust l D cI cC cS h hn adn hsn ads hh har hw adw σ ς hs ha η dp τ kd am sd q u p (1 + (lowv x 99)) (lowv (shv x) 3) bY ⟨by omega, by omega⟩ ⟨⟨by omega, by omega⟩, ⟨by omega, by omega⟩⟩ _) rfl rfl hl (Nat.le_of_ble_eq_true rfl) dL_isPerson_357 ⟨Nat.le_refl 0, Nat.le_refl 0⟩) (fun H locs w => ?_)
                  refine q_ifz_eq (tgt := 367) C dL_isPerson_360 (by decide) (fun z => absurd trivial z) (fun _ => ?_)
                  refine q_iconst C dL_isPerson_363 ?_
                  refine q_goto (tgt := 368) C dL_isPerson_364 (by decide) ?_
                  exact q_zret C w dL_isPerson_368 (bI_t trivial).symm rfl
                have join264 :  (wtr σ p (1 + lowv x 99) 0 = 0 ∨ σ (13 + 6 * p + 2) = 999) →  ∀ (H : Heap) (locs : List Loc), Wd D A s (uW cI cC cS h hn adn hsn ads hh har hw adw σ ς hs ha η dp τ kd am sd q u) H locs → ∀ ls : Array Slot, lv_has ls 12 [(0, .ref h), (1, .int (jj p)), (2, .int (jj x)), (3, .int (jj (σ (13 + 6 * p + 4)))), (4, .int (jj (psu σ p 5))), (5, .int (jj (psu σ p 6))), (6, .int (jj a)), (7, .int (jj 1)), (8, .int (jj (1 + (lowv x 99)))), (9, .int (jj (beu σ p (1 + (lowv x 99))))), (10, .int (jj (wtr σ p (1 + lowv x 99) 0)))] → W pr l en rL_isPerson s m args below meth c H locs 0 0 (MQ below (Qi D (tz cI cC cS) (bI True) (uW cI cC cS h hn adn hsn ads hh har hw adw σ ς hs ha η dp τ kd am sd q u) A) args s 0 0 A) (F0 m 264 ls []) := by
                  intro  hno H locs w ls hl
                  have hbn := beu_no hp.1 hp.2 hdd hno
                  refine q_iload C hl dL_isPerson_264 9 rfl ?_
                  refine q_bipush C dL_isPerson_266 (by decide) ?_
                  refine q_icmpN (tgt := 275) C dL_isPerson_268 (by decide) hbn ?_
                  refine q_iconst C dL_isPerson_271 ?_
                  refine q_goto (tgt := 333) C dL_isPerson_272 (by decide) ?_
                  exact join333   _ _ w ls (lv_sub hl [0, 1, 2, 3, 4, 5, 6, 7, 8, 9, 10] rfl)
                refine q_iload C hl dL_isPerson_247 0 rfl ?_
                refine q_if_eq (tgt := 264) C dL_isPerson_249 (by decide) ⟨by omega, by omega⟩ (fun c7 => ?_) (fun c7 => ?_)
                · have c7 := c7
                  exact join264  (by omega) _ _ w ls (lv_sub hl [1, 2, 3, 4, 5, 6, 7, 8, 9, 10, 0] rfl)
                · have c7 := c7
                  refine q_aload_n C hl dL_isPerson_252 rfl 1 rfl ?_
                  refine q_iload_n C hl dL_isPerson_253 rfl 2 rfl ?_
                  refine q_iconst C dL_isPerson_254 ?_
                  refine q_runi C w fr_all (q_V (As := [.int (jj p), .int (jj 2)]) (rest := []) C w fr_all fX3_person gL_isPerson_X3_person rfl ⟨Nat.le_of_ble_eq_true rfl, Nat.le_of_ble_eq_true rfl⟩ (kX3_person l D cI cC cS h hn adn hsn ads hh har hw adw σ ς hs ha η dp τ kd am sd q u p 2 bY (by omega) (by omega) _) (q0 := 0) rfl rfl rfl rfl hl (Nat.le_of_ble_eq_true rfl) dL_isPerson_255 ⟨Nat.le_refl 0, Nat.le_refl 0⟩) (fun H locs w => ?_)
                  rw [show (psu σ p 2) = σ (13 + 6 * p + 2) from psu_k (by omega) (by omega) (by omega) (by omega)]
                  refine q_sipush C dL_isPerson_258 (by decide) ?_
                  refine q_icmp_ne (tgt := 279) C dL_isPerson_261 (by decide) ⟨by omega, by omega⟩ ⟨by omega, by omega⟩ (fun c8 => ?_) (fun c8 => ?_)
                  · have c8 := c8
                    obtain ⟨⟨hb0, hb9⟩, hb1, hb2, hb3, hb4⟩ := beu_b bY hp.1 hp.2 hdd (by omega)
                    refine q_iload C hl dL_isPerson_279 10 rfl ?_
                    refine q_if_lt (tgt := 332) C dL_isPerson_281 (by decide) ⟨by omega, by omega⟩ (fun c9 => ?_) (fun c9 => ?_)
                    · exact absurd c9 (by omega)
                    · have c9 := c9
                      refine q_aload_n C hl dL_isPerson_284 rfl 1 rfl ?_
                      refine q_iload_n C hl dL_isPerson_285 rfl 2 rfl ?_
                      refine q_iconst C dL_isPerson_286 ?_
                      refine q_runi C w fr_all (q_V (As := [.int (jj p), .int (jj 1)]) (rest := []) C w fr_all fX3_person gL_isPerson_X3_person rfl ⟨Nat.le_of_ble_eq_true rfl, Nat.le_of_ble_eq_true rfl⟩ (kX3_person l D cI cC cS h hn adn hsn ads hh har hw adw σ ς hs ha η dp τ kd am sd q u p 1 bY (by omega) (by omega) _) (q0 := 0) rfl rfl rfl rfl hl (Nat.le_of_ble_eq_true rfl) dL_isPerson_287 ⟨Nat.le_refl 0, Nat.le_refl 0⟩) (fun H locs w => ?_)
                      rw [show (psu σ p 1) = σ (13 + 6 * p + 1) from psu_k (by omega) (by omega) (by omega) (by omega)]
                      refine q_iload C hl dL_isPerson_290 10 rfl ?_
                      refine q_iload C hl dL_isPerson_292 0 rfl ?_
                      refine q_imul C dL_isPerson_294 ?_
                      refine q_iadd C dL_isPerson_295 ?_
                      refine q_aload_n C hl dL_isPerson_296 rfl 1 rfl ?_
                      refine q_iload_n C hl dL_isPerson_297 rfl 2 rfl ?_
                      refine q_iconst C dL_isPerson_298 ?_
                      refine q_runi C w fr_all (q_V (As := [.int (jj p), .int (jj 2)]) (rest := [.int (jj ((σ (13 + 6 * p + 1)) + ((beu σ p (1 + (lowv x 99))) * (wtr σ p (1 + lowv x 99) 0))))]) C w fr_all fX3_person gL_isPerson_X3_person rfl ⟨Nat.le_of_ble_eq_true rfl, Nat.le_of_ble_eq_true rfl⟩ (kX3_person l D cI cC cS h hn adn hsn ads hh har hw adw σ ς hs ha η dp τ kd am sd q u p 2 bY (by omega) (by omega) _) (q0 := 0) rfl rfl rfl rfl hl (Nat.le_of_ble_eq_true rfl) dL_isPerson_299 ⟨Nat.le_refl 0, Nat.le_refl 0⟩) (fun H locs w => ?_)
                      rw [show (psu σ p 2) = σ (13 + 6 * p + 2) from psu_k (by omega) (by omega) (by omega) (by omega)]
                      refine q_icmp_gt (tgt := 332) C dL_isPerson_302 (by decide) ⟨by omega, by omega⟩ ⟨by omega, by omega⟩ (fun c10 => ?_) (fun c10 => ?_)
                      · exact absurd c10 (by omega)
                      · have c10 := c10
                        refine q_aload_n C hl dL_isPerson_305 rfl 1 rfl ?_
                        refine q_iload_n C hl dL_isPerson_306 rfl 2 rfl ?_
                        refine q_iconst C dL_isPerson_307 ?_
                        refine q_runi C w fr_all (q_V (As := [.int (jj p), .int (jj 1)]) (rest := []) C w fr_all fX3_person gL_isPerson_X3_person rfl ⟨Nat.le_of_ble_eq_true rfl, Nat.le_of_ble_eq_true rfl⟩ (kX3_person l D cI cC cS h hn adn hsn ads hh har hw adw σ ς hs ha η dp τ kd am sd q u p 1 bY (by omega) (by omega) _) (q0 := 0) rfl rfl rfl rfl hl (Nat.le_of_ble_eq_true rfl) dL_isPerson_308 ⟨Nat.le_refl 0, Nat.le_refl 0⟩) (fun H locs w => ?_)
                        rw [show (psu σ p 1) = σ (13 + 6 * p + 1) from psu_k (by omega) (by omega) (by omega) (by omega)]
                        refine q_iload C hl dL_isPerson_311 10 rfl ?_
                        refine q_iconst C dL_isPerson_313 ?_
                        refine q_iadd C dL_isPerson_314 ?_
                        refine q_iload C hl dL_isPerson_315 0 rfl ?_
                        refine q_imul C dL_isPerson_317 ?_
                        refine q_iadd C dL_isPerson_318 ?_
                        refine q_aload_n C hl dL_isPerson_319 rfl 1 rfl ?_
                        refine q_iload_n C hl dL_isPerson_320 rfl 2 rfl ?_
                        refine q_iconst C dL_isPerson_321 ?_
                        refine q_runi C w fr_all (q_V (As := [.int (jj p), .int (jj 2)]) (rest := [.int (jj ((σ (13 + 6 * p + 1)) + (((beu σ p (1 + (lowv x 99))) + 1) * (wtr σ p (1 + lowv x 99) 0))))]) C w fr_all fX3_person gL_isPerson_X3_person rfl ⟨Nat.le_of_ble_eq_true rfl, Nat.le_of_ble_eq_true rfl⟩ (kX3_person l D cI cC cS h hn adn hsn ads hh har hw adw σ ς hs ha η dp τ kd am sd q u p 2 bY (by omega) (by omega) _) (q0 := 0) rfl rfl rfl rfl hl (Nat.le_of_ble_eq_true rfl) dL_isPerson_322 ⟨Nat.le_refl 0, Nat.le_refl 0⟩) (fun H locs w => ?_)
                        rw [show (psu σ p 2) = σ (13 + 6 * p + 2) from psu_k (by omega) (by omega) (by omega) (by omega)]
                        refine q_icmp_le (tgt := 332) C dL_isPerson_325 (by decide) ⟨by omega, by omega⟩ ⟨by omega, by omega⟩ (fun c11 => ?_) (fun c11 => ?_)
                        · exact absurd c11 (by omega)
                        · have c11 := c11
                          refine q_iconst C dL_isPerson_328 ?_
                          refine q_goto (tgt := 333) C dL_isPerson_329 (by decide) ?_
                          exact join333   _ _ w ls (lv_sub hl [1, 2, 3, 4, 5, 6, 7, 8, 9, 10, 0] rfl)
                  · have c8 := c8
                    exact join264  (by omega) _ _ w ls (lv_sub hl [1, 2, 3, 4, 5, 6, 7, 8, 9, 10, 0] rfl)
              refine q_aload_n C hl dL_isPerson_207 rfl 3 rfl ?_
              refine q_iload_n C hl dL_isPerson_208 rfl 4 rfl ?_
              refine q_iload C hl dL_isPerson_209 1 rfl ?_
              refine q_iconst C dL_isPerson_211 ?_
              refine q_iconst C dL_isPerson_212 ?_
              refine q_runi C w fr_all (q_V (As := [.int (jj p), .int (jj (1 + (lowv x 99))), .int (jj 0), .int (jj 0)]) (rest := []) C w fr_all fX3_ifGust gL_isPerson_X3_ifGust rfl ⟨Nat.le_of_ble_eq_true rfl, Nat.le_of_ble_eq_true rfl⟩ (kX3_ifGust l D cI cC cS h hn adn hsn ads hh har hw adw σ ς hs ha η dp τ kd am sd q u p (1 + (lowv x 99)) 0 0 bY (by omega) (by omega) (by omega) (by omega) _) (q0 := 0) rfl rfl rfl rfl hl (Nat.le_of_ble_eq_true rfl) dL_isPerson_213 ⟨Nat.le_refl 0, Nat.le_refl 0⟩) (fun H locs w => ?_)
              rw [show (ifu σ p (1 + (lowv x 99)) 0 0) = bI (cov σ p 0) from ifu_0 hp.1 hp.2 hgg]
              refine q_iconst C dL_isPerson_216 ?_
              refine q_icmp_ne (tgt := 224) C dL_isPerson_217 (by decide) ⟨by omega, by omega⟩ ⟨by omega, by omega⟩ (fun c12 => ?_) (fun c12 => ?_)
              · have c12 := c12
                refine q_iload C hl dL_isPerson_224 1 rfl ?_
                exact join226 (1 + (lowv x 99)) (by first | exact (if_pos (Classical.not_not.mp (fun zz => by have := bI_f zz; omega))).symm | exact (if_neg (fun zz => by have := bI_t zz; omega)).symm) _ _ w ls (lv_sub hl [3, 4, 5, 6, 7, 8, 9, 2, 1, 0] rfl)
              · have c12 := c12
                refine q_iconst C dL_isPerson_220 ?_
                refine q_goto (tgt := 226) C dL_isPerson_221 (by decide) ?_
                exact join226 0 (by first | exact (if_pos (Classical.not_not.mp (fun zz => by have := bI_f zz; omega))).symm | exact (if_neg (fun zz => by have := bI_t zz; omega)).symm) _ _ w ls (lv_sub hl [3, 4, 5, 6, 7, 8, 9, 2, 1, 0] rfl)
            refine q_iload_n C hl dL_isPerson_116 rfl 3 rfl ?_
            refine q_if_ne (tgt := 137) C dL_isPerson_117 (by decide) ⟨by omega, by omega⟩ (fun c13 => ?_) (fun c13 => ?_)
            · have c13 := c13
              obtain ⟨⟨h5a, h5b⟩, h5c, h5d, h5e, h5f, h5g⟩ := hit_5 bY hp.1 hp.2 c13
              refine q_aload_n C hl dL_isPerson_137 rfl 0 rfl ?_
              refine q_iload_n C hl dL_isPerson_138 rfl 1 rfl ?_
              refine q_iload C hl dL_isPerson_139 4 rfl ?_
              refine q_runi C w fr_all (q_S (As := [.ref h, .int (jj p), .int (jj (psu σ p 5))]) (rest := []) C w fr_all fL_reaches gL_isPerson_L_reaches ⟨Nat.le_of_ble_eq_true rfl, Nat.le_of_ble_eq_true rfl⟩ (kL_reaches l D cI cC cS h hn adn hsn ads hh har hw adw σ ς hs ha η dp τ kd am sd q u p (psu σ p 5) bY ⟨by omega, by omega⟩ ⟨by omega, by omega⟩ _) rfl rfl hl (Nat.le_of_ble_eq_true rfl) dL_isPerson_141 ⟨Nat.le_refl 0, Nat.le_refl 0⟩) (fun H locs w => ?_)
              refine q_ifz_eq (tgt := 185) C dL_isPerson_144 (by decide) (fun c14 => ?_) (fun c14 => ?_)
              · exact absurd h5d c14
              · have c14 := c14
                refine q_aload_n C hl dL_isPerson_147 rfl 0 rfl ?_
                refine q_iload_n C hl dL_isPerson_148 rfl 1 rfl ?_
                refine q_iload C hl dL_isPerson_149 5 rfl ?_
                refine q_runi C w fr_all (q_S (As := [.ref h, .int (jj p), .int (jj (psu σ p 6))]) (rest := []) C w fr_all fL_reaches gL_isPerson_L_reaches ⟨Nat.le_of_ble_eq_true rfl, Nat.le_of_ble_eq_true rfl⟩ (kL_reaches l D cI cC cS h hn adn hsn ads hh har hw adw σ ς hs ha η dp τ kd am sd q u p (psu σ p 6) bY ⟨by omega, by omega⟩ ⟨by omega, by omega⟩ _) rfl rfl hl (Nat.le_of_ble_eq_true rfl) dL_isPerson_151 ⟨Nat.le_refl 0, Nat.le_refl 0⟩) (fun H locs w => ?_)
                refine q_ifz_eq (tgt := 185) C dL_isPerson_154 (by decide) (fun c15 => ?_) (fun c15 => ?_)
                · exact absurd h5e c15
                · have c15 := c15
                  refine q_aload_n C hl dL_isPerson_157 rfl 0 rfl ?_
                  refine q_iload_n C hl dL_isPerson_158 rfl 1 rfl ?_
                  refine q_iload C hl dL_isPerson_159 4 rfl ?_
                  refine q_iconst C dL_isPerson_161 ?_
                  refine q_isub C dL_isPerson_162 ?_
                  refine q_runi C w fr_all (q_S (As := [.ref h, .int (jj p), .int (jj ((psu σ p 5) - 1))]) (rest := []) C w fr_all fL_reaches gL_isPerson_L_reaches ⟨Nat.le_of_ble_eq_true rfl, Nat.le_of_ble_eq_true rfl⟩ (kL_reaches l D cI cC cS h hn adn hsn ads hh har hw adw σ ς hs ha η dp τ kd am sd q u p ((psu σ p 5) - 1) bY ⟨by omega, by omega⟩ ⟨by omega, by omega⟩ _) rfl rfl hl (Nat.le_of_ble_eq_true rfl) dL_isPerson_163 ⟨Nat.le_refl 0, Nat.le_refl 0⟩) (fun H locs w => ?_)
                  refine q_ifz_ne (tgt := 185) C dL_isPerson_166 (by decide) (fun c16 => ?_) (fun c16 => ?_)
                  · exact absurd c16 h5f
                  · have c16 := c16
                    refine q_aload_n C hl dL_isPerson_169 rfl 0 rfl ?_
                    refine q_iload_n C hl dL_isPerson_170 rfl 1 rfl ?_
                    refine q_iload C hl dL_isPerson_171 5 rfl ?_
                    refine q_iconst C dL_isPerson_173 ?_
                    refine q_iadd C dL_isPerson_174 ?_
                    refine q_runi C w fr_all (q_S (As := [.ref h, .int (jj p), .int (jj ((psu σ p 6) + 1))]) (rest := []) C w fr_all fL_reaches gL_isPerson_L_reaches ⟨Nat.le_of_ble_eq_true rfl, Nat.le_of_ble_eq_true rfl⟩ (kL_reaches l D cI cC cS h hn adn hsn ads hh har hw adw σ ς hs ha η dp τ kd am sd q u p ((psu σ p 6) + 1) bY ⟨by omega, by omega⟩ ⟨by omega, by omega⟩ _) rfl rfl hl (Nat.le_of_ble_eq_true rfl) dL_isPerson_175 ⟨Nat.le_refl 0, Nat.le_refl 0⟩) (fun H locs w => ?_)
                    refine q_ifz_ne (tgt := 185) C dL_isPerson_178 (by decide) (fun c17 => ?_) (fun c17 => ?_)
                    · exact absurd c17 h5g
                    · have c17 := c17
                      exact join181   _ _ w ls (lv_sub hl [0, 1, 2, 3, 4, 5, 6, 7] rfl)
            · have c13 := c13
              have e5 : psu σ p 5 = -5 := (psu_5 hp.1 hp.2).trans (if_pos c13)
              have e6 : psu σ p 6 = -5 := (psu_6 hp.1 hp.2).trans (if_pos c13)
              refine q_iload C hl dL_isPerson_120 4 rfl ?_
              refine q_bipush C dL_isPerson_122 (by decide) ?_
              refine q_icmpN (tgt := 185) C dL_isPerson_124 (by decide) e5 ?_
              refine q_iload C hl dL_isPerson_127 5 rfl ?_
              refine q_bipush C dL_isPerson_129 (by decide) ?_
              refine q_icmpN (tgt := 185) C dL_isPerson_131 (by decide) e6 ?_
              refine q_goto (tgt := 181) C dL_isPerson_134 (by decide) ?_
              exact join181   _ _ w ls (lv_sub hl [0, 1, 2, 3, 4, 5, 6, 7] rfl)
      · have c1 := c1
        refine q_iload C hl dL_isPerson_40 6 rfl ?_
        refine q_aload_n C hl dL_isPerson_42 rfl 0 rfl ?_
        refine q_iload C hl dL_isPerson_43 7 rfl ?_
        refine q_iload_n C hl dL_isPerson_45 rfl 1 rfl ?_
        refine q_runi C w fr_all (q_S (As := [.ref h, .int (jj i), .int (jj p)]) (rest := [.int (jj a)]) C w fr_all fL_reaches gL_isPerson_L_reaches ⟨Nat.le_of_ble_eq_true rfl, Nat.le_of_ble_eq_true rfl⟩ (kL_reaches l D cI cC cS h hn adn hsn ads hh har hw adw σ ς hs ha η dp τ kd am sd q u i p bY ⟨by omega, by omega⟩ ⟨by omega, by omega⟩ _) rfl rfl hl (Nat.le_of_ble_eq_true rfl) dL_isPerson_46 ⟨Nat.le_refl 0, Nat.le_refl 0⟩) (fun H locs w => ?_)
        refine q_ifz_eq (tgt := 56) C dL_isPerson_49 (by decide) (fun c18 => ?_) (fun c18 => ?_)
        · have c18 := c18
          refine q_iconst C dL_isPerson_56 ?_
          refine q_iadd C dL_isPerson_57 ?_
          refine q_istore (lv' := [(6, .int (jj (a + 0))), (0, .ref h), (1, .int (jj p)), (2, .int (jj x)), (3, .int (jj (σ (13 + 6 * p + 4)))), (4, .int (jj (psu σ p 5))), (5, .int (jj (psu σ p 6))), (7, .int (jj i))]) C hl dL_isPerson_58 (by decide) rfl (fun ls hl => ?_)
          refine q_iinc (lv' := [(7, .int (jj (i + 1))), (6, .int (jj (a + 0))), (0, .ref h), (1, .int (jj p)), (2, .int (jj x)), (3, .int (jj (σ (13 + 6 * p + 4)))), (4, .int (jj (psu σ p 5))), (5, .int (jj (psu σ p 6)))]) C hl dL_isPerson_60 7 rfl (by decide) rfl (fun ls hl => ?_)
          refine q_goto (tgt := 30) C dL_isPerson_63 (by decide) ?_
          exact ih30 (i + 1) (a + 0) (by omega) (by omega) (by rw [rch_s σ p hi0]; first | (rw [bI_t (by assumption)]; omega) | (rw [bI_f (by assumption)]; omega)) (by omega) _ _ w ls (lv_sub hl [2, 3, 4, 5, 6, 7, 1, 0] rfl)
        · have c18 := c18
          refine q_iconst C dL_isPerson_52 ?_
          refine q_goto (tgt := 57) C dL_isPerson_53 (by decide) ?_
          refine q_iadd C dL_isPerson_57 ?_
          refine q_istore (lv' := [(6, .int (jj (a + 1))), (0, .ref h), (1, .int (jj p)), (2, .int (jj x)), (3, .int (jj (σ (13 + 6 * p + 4)))), (4, .int (jj (psu σ p 5))), (5, .int (jj (psu σ p 6))), (7, .int (jj i))]) C hl dL_isPerson_58 (by decide) rfl (fun ls hl => ?_)
          refine q_iinc (lv' := [(7, .int (jj (i + 1))), (6, .int (jj (a + 1))), (0, .ref h), (1, .int (jj p)), (2, .int (jj x)), (3, .int (jj (σ (13 + 6 * p + 4)))), (4, .int (jj (psu σ p 5))), (5, .int (jj (psu σ p 6)))]) C hl dL_isPerson_60 7 rfl (by decide) rfl (fun ls hl => ?_)
          refine q_goto (tgt := 30) C dL_isPerson_63 (by decide) ?_
          exact ih30 (i + 1) (a + 1) (by omega) (by omega) (by rw [rch_s σ p hi0]; first | (rw [bI_t (by assumption)]; omega) | (rw [bI_f (by assumption)]; omega)) (by omega) _ _ w ls (lv_sub hl [2, 3, 4, 5, 6, 7, 1, 0] rfl)
  exact loop30 _ 0 0 (by omega) (by omega) rfl (Nat.lt_succ_self _) _ _ w ls (lv_sub hl [5, 6, 7, 4, 3, 2, 1, 0] rfl)
