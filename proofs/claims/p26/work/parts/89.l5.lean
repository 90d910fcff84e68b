def rL_gust : Room := { frames := 7, cells := 2, slots := 32, locals := 169 }
theorem fL_gust : Fj yL_gust wsL_gust rL_gust cL_gust 12 (some .int) 3 2 32 := ⟨⟨_, rfl⟩, rfl, rfl, by decide +kernel, by decide +kernel, by decide +kernel⟩
set_option maxHeartbeats 4000000 in
set_option maxRecDepth 10000 in
theorem kL_gust (l : Launch) (D : va_G) (cI cC cS : ClassId) (h hn : Nat) (adn : Nat → Nat) (hsn : Nat) (ads : Nat → Nat) (hh har hw : Nat) (adw : Nat → Nat) (σ ς : Int → Int) (hs : Nat → Nat) (ha : Nat → Nat → Nat) (η : Nat → Int → Int) (dp : Int) (τ kd am sd q u : Int → Int) (d side : Int) (bJ : Jv σ) (bdp : 0 ≤ dp ∧ dp ≤ 4) (hg : gst d side) : Kj l yL_gust wsL_gust rL_gust D (tz cI cC cS) [.ref h, .int (jj d), .int (jj side)] (uW cI cC cS h hn adn hsn ads hh har hw adw σ ς hs ha η dp τ kd am sd q u) (guA σ d side) (uW cI cC cS h hn adn hsn ads hh har hw adw (guW σ d side) ς (rcH (guA σ d side) dp hs) (rcH (guA σ d side) dp ha) (rcH (guA σ d side) dp (upN η dp.toNat σ)) (rcP (guA σ d side) dp) τ kd am sd q u) 2 32 := by
  have bY := bJ.1
  have hW := bY.1
  have hE := bY.2.1
  have hn2 := hW.2.1
  have hn_ := hW.1
  have hgd := hg.1
  have hgs := hg.2
  have hgb := guA_b bY d side
  have bJ2 := (gu_J bJ d side).1
  have bY3 := bJ2.1
  have hn3 := bY3.1.2.1
  have hn4 := bY3.1.1
  refine q_entry (cc := cL_gust) (nL := 12) (ret := (some .int)) (by decide) ⟨_, rfl⟩ (Nat.le_of_ble_eq_true rfl) ?_
  intro A pr en s m args below meth c C hin w ls hl
  have w := w
  have hl : lv_has ls 12 [(0, .ref h), (1, .int (jj d)), (2, .int (jj side))] := hl
  refine q_aload_n C hl dL_gust_0 rfl 0 rfl ?_
  refine q_iconst C dL_gust_1 ?_
  refine q_runi C w fr_all (q_V (As := [.int (jj 0)]) (rest := []) C w fr_all fX3_count gL_gust_X3_count rfl ⟨Nat.le_of_ble_eq_true rfl, Nat.le_of_ble_eq_true rfl⟩ (kX3_count l D cI cC cS h hn adn hsn ads hh har hw adw σ ς hs ha η dp τ kd am sd q u 0 bY (by omega) _) (q0 := 0) rfl rfl rfl rfl hl (Nat.le_of_ble_eq_true rfl) dL_gust_2 ⟨Nat.le_of_ble_eq_true rfl, Nat.le_of_ble_eq_true rfl⟩) (fun H locs w => ?_)
  rw [show (cnu σ dp (q 1) 0) = σ 0 from cnu_k (by omega) (by omega)]
  refine q_istore_n (lv' := [(3, .int (jj (σ 0))), (0, .ref h), (1, .int (jj d)), (2, .int (jj side))]) C hl dL_gust_5 rfl (by decide) rfl (fun ls hl => ?_)
  refine q_bipush C dL_gust_6 (by decide) ?_
  refine q_newi (N := 16) C w (List.mem_of_getElem? (i := 1) rfl) rfl (by decide) (Nat.le_of_ble_eq_true rfl) (Nat.le_of_ble_eq_true rfl) dL_gust_8 (fun x4 H w => ?_)
  have w : Wd D A s (uW cI cC cS h hn adn hsn ads hh har hw adw σ ς hs ha η dp τ kd am sd q u ++ [(x4, .inl (cI, 16, .inl (ac (fun _ => 0))))]) H _ := w
  refine lv_astore (lv' := [(4, .ref x4), (3, .int (jj (σ 0))), (0, .ref h), (1, .int (jj d)), (2, .int (jj side))]) C.1 C.2.1 dL_gust_10 hl (by decide) rfl (fun ls hl => ?_)
  refine q_bipush C dL_gust_12 (by decide) ?_
  refine q_newi (N := 16) C w (List.mem_of_getElem? (i := 1) rfl) rfl (by decide) (Nat.le_of_ble_eq_true rfl) (Nat.le_of_ble_eq_true rfl) dL_gust_14 (fun x5 H w => ?_)
  rw [List.append_assoc] at w
  have w : Wd D A s (uW cI cC cS h hn adn hsn ads hh har hw adw σ ς hs ha η dp τ kd am sd q u ++ [(x4, .inl (cI, 16, .inl (ac (fun _ => 0)))), (x5, .inl (cI, 16, .inl (ac (fun _ => 0))))]) H _ := w
  refine lv_astore (lv' := [(5, .ref x5), (4, .ref x4), (3, .int (jj (σ 0))), (0, .ref h), (1, .int (jj d)), (2, .int (jj side))]) C.1 C.2.1 dL_gust_16 hl (by decide) rfl (fun ls hl => ?_)
  refine q_iconst C dL_gust_18 ?_
  refine q_istore (lv' := [(6, .int (jj 0)), (5, .ref x5), (4, .ref x4), (3, .int (jj (σ 0))), (0, .ref h), (1, .int (jj d)), (2, .int (jj side))]) C hl dL_gust_19 (by decide) rfl (fun ls hl => ?_)
  refine q_iconst C dL_gust_21 ?_
  refine q_istore (lv' := [(7, .int (jj 0)), (6, .int (jj 0)), (5, .ref x5), (4, .ref x4), (3, .int (jj (σ 0))), (0, .ref h), (1, .int (jj d)), (2, .int (jj side))]) C hl dL_gust_22 (by decide) rfl (fun ls hl => ?_)
  have loop24 : ∀ (n24 : Nat) (i : Int) (v : Int) (f4 : Int → Int) (f5 : Int → Int), (0 ≤ i) → (i ≤ σ 0) → (v = gsm σ d side i) → (∀ y : Int, 0 ≤ y → y < i → f4 y = wby σ y d side) → (∀ y : Int, 0 ≤ y → y < i → f5 y = σ (13 + 6 * y + 0)) → (σ 0 - i).toNat < n24 → ∀ (H : Heap) (locs : List Loc), Wd D A s (uW cI cC cS h hn adn hsn ads hh har hw adw σ ς hs ha η dp τ kd am sd q u ++ [(x4, .inl (cI, 16, .inl (ac f4))), (x5, .inl (cI, 16, .inl (ac f5)))]) H locs → ∀ ls : Array Slot, lv_has ls 12 [(0, .ref h), (1, .int (jj d)), (2, .int (jj side)), (3, .int (jj (σ 0))), (4, .ref x4), (5, .ref x5), (6, .int (jj v)), (7, .int (jj i))] → W pr l en rL_gust s m args below meth c H locs 2 32 (MQ below (Qi D (tz cI cC cS) (guA σ d side) (uW cI cC cS h hn adn hsn ads hh har hw adw (guW σ d side) ς (rcH (guA σ d side) dp hs) (rcH (guA σ d side) dp ha) (rcH (guA σ d side) dp (upN η dp.toNat σ)) (rcP (guA σ d side) dp) τ kd am sd q u) A) args s 2 32 A) (F0 m 24 ls []) := by
    intro n24
    induction n24 with
    | zero => intro i v f4 f5 hi0 hi1 hv h4 h5 hm; exact absurd hm (Nat.not_lt_zero _)
    | succ n24 ih24 =>
      intro i v f4 f5 hi0 hi1 hv h4 h5 hm24 H locs w ls hl
      refine q_iload C hl dL_gust_24 7 rfl ?_
      refine q_iload_n C hl dL_gust_26 rfl 3 rfl ?_
      refine q_icmp_ge (tgt := 76) C dL_gust_27 (by decide) ⟨by omega, by omega⟩ ⟨by omega, by omega⟩ (fun c1 => ?_) (fun c1 => ?_)
      · have c1 := c1
        have ei : i = σ 0 := by omega
        refine q_aload_n C hl dL_gust_76 rfl 0 rfl ?_
        refine q_iconst C dL_gust_77 ?_
        refine q_runi C w fr_hd (q_V (As := [.int (jj 3)]) (rest := []) C w fr_hd fX3_count gL_gust_X3_count rfl ⟨Nat.le_of_ble_eq_true rfl, Nat.le_of_ble_eq_true rfl⟩ (kX3_count l D cI cC cS h hn adn hsn ads hh har hw adw σ ς hs ha η dp τ kd am sd q u 3 bY (by omega) _) (q0 := 0) rfl rfl rfl rfl hl (Nat.le_of_ble_eq_true rfl) dL_gust_78 ⟨Nat.le_of_ble_eq_true rfl, Nat.le_of_ble_eq_true rfl⟩) (fun H locs w => ?_)
        rw [show (cnu σ dp (q 1) 3) = σ 3 from cnu_k (by omega) (by omega)]
        refine q_istore (lv' := [(7, .int (jj (σ 3))), (0, .ref h), (1, .int (jj d)), (2, .int (jj side)), (3, .int (jj (σ 0))), (4, .ref x4), (5, .ref x5), (6, .int (jj v))]) C hl dL_gust_81 (by decide) rfl (fun ls hl => ?_)
        refine q_aload_n C hl dL_gust_83 rfl 1 rfl ?_
        refine q_iload_n C hl dL_gust_84 rfl 2 rfl ?_
        refine q_iload_n C hl dL_gust_85 rfl 3 rfl ?_
        refine q_runi C w fr_hd (q_V (As := [.int (jj d), .int (jj side)]) (rest := []) C w fr_hd fX3_gust gL_gust_X3_gust rfl ⟨Nat.le_of_ble_eq_true rfl, Nat.le_of_ble_eq_true rfl⟩ (kX3_gust l D cI cC cS h hn adn hsn ads hh har hw adw σ ς hs ha η dp τ kd am sd q u d side bY (by omega) (by omega) (by omega) ⟨hgb.1, hgb.2.1⟩ _) (q0 := 0) rfl rfl rfl rfl hl (Nat.le_of_ble_eq_true rfl) dL_gust_86 ⟨Nat.le_of_ble_eq_true rfl, Nat.le_of_ble_eq_true rfl⟩) (fun H locs w => ?_)
        refine q_istore (lv' := [(8, .int (jj (guA σ d side))), (7, .int (jj (σ 3))), (0, .ref h), (1, .int (jj d)), (2, .int (jj side)), (3, .int (jj (σ 0))), (4, .ref x4), (5, .ref x5), (6, .int (jj v))]) C hl dL_gust_89 (by decide) rfl (fun ls hl => ?_)
        have join147 :   ∀ (H : Heap) (locs : List Loc), Wd D A s (uW cI cC cS h hn adn hsn ads hh har hw adw (guW σ d side) ς (rcH (guA σ d side) dp hs) (rcH (guA σ d side) dp ha) (rcH (guA σ d side) dp (upN η dp.toNat σ)) (rcP (guA σ d side) dp) τ kd am sd q u ++ [(x4, .inl (cI, 16, .inl (ac f4))), (x5, .inl (cI, 16, .inl (ac f5)))]) H locs → ∀ ls : Array Slot, lv_has ls 12 [(0, .ref h), (1, .int (jj d)), (2, .int (jj side)), (3, .int (jj (σ 0))), (4, .ref x4), (5, .ref x5), (6, .int (jj v)), (7, .int (jj (σ 3))), (8, .int (jj (guA σ d side)))] → W pr l en rL_gust s m args below meth c H locs 2 32 (MQ below (Qi D (tz cI cC cS) (guA σ d side) (uW cI cC cS h hn adn hsn ads hh har hw adw (guW σ d side) ς (rcH (guA σ d side) dp hs) (rcH (guA σ d side) dp ha) (rcH (guA σ d side) dp (upN η dp.toNat σ)) (rcP (guA σ d side) dp) τ kd am sd q u) A) args s 2 32 A) (F0 m 147 ls [.int (jj 1)]) := by
          intro   H locs w ls hl
          refine q_istore (lv' := [(9, .int (jj 1)), (0, .ref h), (1, .int (jj d)), (2, .int (jj side)), (3, .int (jj (σ 0))), (4, .ref x4), (5, .ref x5), (6, .int (jj v)), (7, .int (jj (σ 3))), (8, .int (jj (guA σ d side)))]) C hl dL_gust_147 (by decide) rfl (fun ls hl => ?_)
          refine q_iconst C dL_gust_149 ?_
          refine q_istore (lv' := [(10, .int (jj 0)), (9, .int (jj 1)), (0, .ref h), (1, .int (jj d)), (2, .int (jj side)), (3, .int (jj (σ 0))), (4, .ref x4), (5, .ref x5), (6, .int (jj v)), (7, .int (jj (σ 3))), (8, .int (jj (guA σ d side)))]) C hl dL_gust_150 (by decide) rfl (fun ls hl => ?_)
          have loop152 : ∀ (n152 : Nat) (j : Int), (0 ≤ j) → (j ≤ σ 0) → (σ 0 - j).toNat < n152 → ∀ (H : Heap) (locs : List Loc), Wd D A s (uW cI cC cS h hn adn hsn ads hh har hw adw (guW σ d side) ς (rcH (guA σ d side) dp hs) (rcH (guA σ d side) dp ha) (rcH (guA σ d side) dp (upN η dp.toNat σ)) (rcP (guA σ d side) dp) τ kd am sd q u ++ [(x4, .inl (cI, 16, .inl (ac f4))), (x5, .inl (cI, 16, .inl (ac f5)))]) H locs → ∀ ls : Array Slot, lv_has ls 12 [(0, .ref h), (1, .int (jj d)), (2, .int (jj side)), (3, .int (jj (σ 0))), (4, .ref x4), (5, .ref x5), (6, .int (jj v)), (7, .int (jj (σ 3))), (8, .int (jj (guA σ d side))), (9, .int (jj 1)), (10, .int (jj j))] → W pr l en rL_gust s m args below meth c H locs 2 32 (MQ below (Qi D (tz cI cC cS) (guA σ d side) (uW cI cC cS h hn adn hsn ads hh har hw adw (guW σ d side) ς (rcH (guA σ d side) dp hs) (rcH (guA σ d side) dp ha) (rcH (guA σ d side) dp (upN η dp.toNat σ)) (rcP (guA σ d side) dp) τ kd am sd q u) A) args s 2 32 A) (F0 m 152 ls []) := by
            intro n152
            induction n152 with
            | zero => intro j hj0 hj1 hm; exact absurd hm (Nat.not_lt_zero _)
            | succ n152 ih152 =>
              intro j hj0 hj1 hm152 H locs w ls hl
              refine q_iload C hl dL_gust_152 10 rfl ?_
              refine q_iload_n C hl dL_gust_154 rfl 3 rfl ?_
              refine q_icmp_ge (tgt := 224) C dL_gust_155 (by decide) ⟨by omega, by omega⟩ ⟨by omega, by omega⟩ (fun c2 => ?_) (fun c2 => ?_)
              · have c2 := c2
                refine q_iload C hl dL_gust_224 9 rfl ?_
                refine q_if_eq (tgt := 234) C dL_gust_226 (by decide) ⟨by omega, by omega⟩ (fun z => absurd z (by omega)) (fun _ => ?_)
                refine q_iload C hl dL_gust_229 8 rfl ?_
                refine q_goto (tgt := 236) C dL_gust_231 (by decide) ?_
                exact q_iretj C (wd_l w) (Nat.le_of_ble_eq_true rfl) (Nat.le_of_ble_eq_true rfl) dL_gust_236 rfl rfl
              · have c2 := c2
                refine q_iload C hl dL_gust_158 9 rfl ?_
                refine q_if_eq (tgt := 224) C dL_gust_160 (by decide) ⟨by omega, by omega⟩ (fun z => absurd z (by omega)) (fun _ => ?_)
                have hid := id_b bY hj0 (by omega)
                have hgu := gu_ok bJ hg hj0 (by omega)
                have hwb := wby_b hW (p := j) (side := side) hgd.1 hgd.2 (hE j hj0 (by omega)).1
                refine q_aload_n C hl dL_gust_163 rfl 0 rfl ?_
                refine lv_aload C.1 C.2.1 dL_gust_164 (lv_at hl 5 rfl) ?_
                refine q_iload C hl dL_gust_166 10 rfl ?_
                refine q_iald (n := 16) (f := f5) C w.1 65 0 rfl rfl ⟨by omega, by omega, by omega⟩ dL_gust_168 ?_
                rw [show (f5 j) = σ (13 + 6 * j + 0) from h5 j hj0 (by omega)]
                refine q_runi C w fr_hd (q_V (As := [.int (jj (σ (13 + 6 * j + 0)))]) (rest := []) C w fr_hd fX3_placeOf gL_gust_X3_placeOf rfl ⟨Nat.le_of_ble_eq_true rfl, Nat.le_of_ble_eq_true rfl⟩ (kX3_placeOf l D cI cC cS h hn adn hsn ads hh har hw adw (guW σ d side) ς (rcH (guA σ d side) dp hs) (rcH (guA σ d side) dp ha) (rcH (guA σ d side) dp (upN η dp.toNat σ)) (rcP (guA σ d side) dp) τ kd am sd q u (σ (13 + 6 * j + 0)) bY3 (by omega) _) (q0 := 0) rfl rfl rfl rfl hl (Nat.le_of_ble_eq_true rfl) dL_gust_169 ⟨Nat.le_of_ble_eq_true rfl, Nat.le_of_ble_eq_true rfl⟩) (fun H locs w => ?_)
                refine q_istore (lv' := [(11, .int (jj (plu (guW σ d side) (σ (13 + 6 * j + 0))))), (0, .ref h), (1, .int (jj d)), (2, .int (jj side)), (3, .int (jj (σ 0))), (4, .ref x4), (5, .ref x5), (6, .int (jj v)), (7, .int (jj (σ 3))), (8, .int (jj (guA σ d side))), (9, .int (jj 1)), (10, .int (jj j))]) C hl dL_gust_172 (by decide) rfl (fun ls hl => ?_)
                have join211 :   ∀ (H : Heap) (locs : List Loc), Wd D A s (uW cI cC cS h hn adn hsn ads hh har hw adw (guW σ d side) ς (rcH (guA σ d side) dp hs) (rcH (guA σ d side) dp ha) (rcH (guA σ d side) dp (upN η dp.toNat σ)) (rcP (guA σ d side) dp) τ kd am sd q u ++ [(x4, .inl (cI, 16, .inl (ac f4))), (x5, .inl (cI, 16, .inl (ac f5)))]) H locs → ∀ ls : Array Slot, lv_has ls 12 [(0, .ref h), (1, .int (jj d)), (2, .int (jj side)), (3, .int (jj (σ 0))), (4, .ref x4), (5, .ref x5), (6, .int (jj v)), (7, .int (jj (σ 3))), (8, .int (jj (guA σ d side))), (9, .int (jj 1)), (10, .int (jj j)), (11, .int (jj (plu (guW σ d side) (σ (13 + 6 * j + 0)))))] → W pr l en rL_gust s m args below meth c H locs 2 32 (MQ below (Qi D (tz cI cC cS) (guA σ d side) (uW cI cC cS h hn adn hsn ads hh har hw adw (guW σ d side) ς (rcH (guA σ d side) dp hs) (rcH (guA σ d side) dp ha) (rcH (guA σ d side) dp (upN η dp.toNat σ)) (rcP (guA σ d side) dp) τ kd am sd q u) A) args s 2 32 A) (F0 m 211 ls []) := by
                  intro   H locs w ls hl
                  refine q_iconst C dL_gust_211 ?_
                  refine q_goto (tgt := 216) C dL_gust_212 (by decide) ?_
                  refine q_istore (lv' := [(9, .int (jj 1)), (0, .ref h), (1, .int (jj d)), (2, .int (jj side)), (3, .int (jj (σ 0))), (4, .ref x4), (5, .ref x5), (6, .int (jj v)), (7, .int (jj (σ 3))), (8, .int (jj (guA σ d side))), (10, .int (jj j)), (11, .int (jj (plu (guW σ d side) (σ (13 + 6 * j + 0)))))]) C hl dL_gust_216 (by decide) rfl (fun ls hl => ?_)
                  refine q_iinc (lv' := [(10, .int (jj (j + 1))), (9, .int (jj 1)), (0, .ref h), (1, .int (jj d)), (2, .int (jj side)), (3, .int (jj (σ 0))), (4, .ref x4), (5, .ref x5), (6, .int (jj v)), (7, .int (jj (σ 3))), (8, .int (jj (guA σ d side))), (11, .int (jj (plu (guW σ d side) (σ (13 + 6 * j + 0)))))]) C hl dL_gust_218 10 rfl (by decide) rfl (fun ls hl => ?_)
                  refine q_goto (tgt := 152) C dL_gust_221 (by decide) ?_
                  exact ih152 (j + 1) (by omega) (by omega) (by omega) _ _ w ls (lv_sub hl [2, 3, 4, 5, 6, 7, 8, 9, 10, 1, 0] rfl)
                refine q_iload C hl dL_gust_174 0 rfl ?_
                refine q_bipush C dL_gust_176 (by decide) ?_
                refine q_icmp_eq (tgt := 211) C dL_gust_178 (by decide) ⟨by omega, by omega⟩ ⟨by omega, by omega⟩ (fun c5 => ?_) (fun c5 => ?_)
                · have c5 := c5
                  exact join211   _ _ w ls (lv_sub hl [1, 2, 3, 4, 5, 6, 7, 8, 9, 10, 11, 0] rfl)
                · have c5 := c5
                  have hp3 := bY3.2.2.1 (plu (guW σ d side) (σ (13 + 6 * j + 0))) (by omega) (by omega)
                  have hp4 := bY3.2.1 (plu (guW σ d side) (σ (13 + 6 * j + 0))) (by omega) (by omega)
                  refine q_aload_n C hl dL_gust_181 rfl 1 rfl ?_
                  refine q_iload C hl dL_gust_182 0 rfl ?_
                  refine q_iconst C dL_gust_184 ?_
                  refine q_runi C w fr_hd (q_V (As := [.int (jj (plu (guW σ d side) (σ (13 + 6 * j + 0)))), .int (jj 1)]) (rest := []) C w fr_hd fX3_person gL_gust_X3_person rfl ⟨Nat.le_of_ble_eq_true rfl, Nat.le_of_ble_eq_true rfl⟩ (kX3_person l D cI cC cS h hn adn hsn ads hh har hw adw (guW σ d side) ς (rcH (guA σ d side) dp hs) (rcH (guA σ d side) dp ha) (rcH (guA σ d side) dp (upN η dp.toNat σ)) (rcP (guA σ d side) dp) τ kd am sd q u (plu (guW σ d side) (σ (13 + 6 * j + 0))) 1 bY3 (by omega) (by omega) _) (q0 := 0) rfl rfl rfl rfl hl (Nat.le_of_ble_eq_true rfl) dL_gust_185 ⟨Nat.le_of_ble_eq_true rfl, Nat.le_of_ble_eq_true rfl⟩) (fun H locs w => ?_)
                  rw [show (psu (guW σ d side) (plu (guW σ d side) (σ (13 + 6 * j + 0))) 1) = guW σ d side (13 + 6 * (plu (guW σ d side) (σ (13 + 6 * j + 0))) + 1) from psu_k (by omega) (by omega) (by omega) (by omega)]
                  refine lv_aload C.1 C.2.1 dL_gust_188 (lv_at hl 5 rfl) ?_
                  refine q_iload C hl dL_gust_190 11 rfl ?_
                  refine q_iald (n := 16) (f := f4) C w.1 64 0 rfl rfl ⟨by omega, by omega, by omega⟩ dL_gust_192 ?_
                  rw [show (f4 j) = wby σ j d side from h4 j hj0 (by omega)]
                  refine q_icmpN (tgt := 215) C dL_gust_193 (by decide) (by omega) ?_
                  refine lv_aload C.1 C.2.1 dL_gust_196 (lv_at hl 5 rfl) ?_
                  refine q_iload C hl dL_gust_198 11 rfl ?_
                  refine q_iald (n := 16) (f := f4) C w.1 64 0 rfl rfl ⟨by omega, by omega, by omega⟩ dL_gust_200 ?_
                  rw [show (f4 j) = wby σ j d side from h4 j hj0 (by omega)]
                  refine q_aload_n C hl dL_gust_201 rfl 1 rfl ?_
                  refine q_iload C hl dL_gust_202 0 rfl ?_
                  refine q_iconst C dL_gust_204 ?_
                  refine q_runi C w fr_hd (q_V (As := [.int (jj (plu (guW σ d side) (σ (13 + 6 * j + 0)))), .int (jj 2)]) (rest := [.int (jj (wby σ j d side))]) C w fr_hd fX3_person gL_gust_X3_person rfl ⟨Nat.le_of_ble_eq_true rfl, Nat.le_of_ble_eq_true rfl⟩ (kX3_person l D cI cC cS h hn adn hsn ads hh har hw adw (guW σ d side) ς (rcH (guA σ d side) dp hs) (rcH (guA σ d side) dp ha) (rcH (guA σ d side) dp (upN η dp.toNat σ)) (rcP (guA σ d side) dp) τ kd am sd q u (plu (guW σ d side) (σ (13 + 6 * j + 0))) 2 bY3 (by omega) (by omega) _) (q0 := 0) rfl rfl rfl rfl hl (Nat.le_of_ble_eq_true rfl) dL_gust_205 ⟨Nat.le_of_ble_eq_true rfl, Nat.le_of_ble_eq_true rfl⟩) (fun H locs w => ?_)
                  rw [show (psu (guW σ d side) (plu (guW σ d side) (σ (13 + 6 * j + 0))) 2) = guW σ d side (13 + 6 * (plu (guW σ d side) (σ (13 + 6 * j + 0))) + 2) from psu_k (by omega) (by omega) (by omega) (by omega)]
                  refine q_icmp_gt (tgt := 215) C dL_gust_208 (by decide) ⟨by omega, by omega⟩ ⟨by omega, by omega⟩ (fun c6 => ?_) (fun c6 => ?_)
                  · exact absurd c6 (by omega)
                  · have c6 := c6
                    exact join211   _ _ w ls (lv_sub hl [1, 2, 3, 4, 5, 6, 7, 8, 9, 10, 11, 0] rfl)
          exact loop152 _ 0 (by omega) (by omega) (Nat.lt_succ_self _) _ _ w ls (lv_sub hl [2, 3, 4, 5, 6, 7, 8, 9, 10, 1, 0] rfl)
        refine q_iload_n C hl dL_gust_91 rfl 5 rfl ?_
        refine q_if_ne (tgt := 110) C dL_gust_92 (by decide) ⟨by omega, by omega⟩ (fun c7 => ?_) (fun c7 => ?_)
        · have c7 := c7
          obtain ⟨ga, g0, g3, gE, gl⟩ := gu_E bJ hg c7
          refine q_iload C hl dL_gust_110 0 rfl ?_
          refine q_iload C hl dL_gust_112 8 rfl ?_
          refine q_icmpN (tgt := 146) C dL_gust_114 (by decide) (by rw [ga, hv, ei]) ?_
          refine q_aload_n C hl dL_gust_117 rfl 2 rfl ?_
          refine q_iconst C dL_gust_118 ?_
          refine q_runi C w fr_hd (q_V (As := [.int (jj 3)]) (rest := []) C w fr_hd fX3_count gL_gust_X3_count rfl ⟨Nat.le_of_ble_eq_true rfl, Nat.le_of_ble_eq_true rfl⟩ (kX3_count l D cI cC cS h hn adn hsn ads hh har hw adw (guW σ d side) ς (rcH (guA σ d side) dp hs) (rcH (guA σ d side) dp ha) (rcH (guA σ d side) dp (upN η dp.toNat σ)) (rcP (guA σ d side) dp) τ kd am sd q u 3 bY3 (by omega) _) (q0 := 0) rfl rfl rfl rfl hl (Nat.le_of_ble_eq_true rfl) dL_gust_119 ⟨Nat.le_of_ble_eq_true rfl, Nat.le_of_ble_eq_true rfl⟩) (fun H locs w => ?_)
          rw [show (cnu (guW σ d side) (rcP (guA σ d side) dp) (q 1) 3) = guW σ d side 3 from cnu_k (by omega) (by omega)]
          refine q_iload C hl dL_gust_122 1 rfl ?_
          refine q_iload C hl dL_gust_124 8 rfl ?_
          refine q_iadd C dL_gust_126 ?_
          refine q_icmpN (tgt := 146) C dL_gust_127 (by decide) (by rw [g3, hv, ei]) ?_
          refine q_aload_n C hl dL_gust_130 rfl 2 rfl ?_
          refine q_iconst C dL_gust_131 ?_
          refine q_runi C w fr_hd (q_V (As := [.int (jj 0)]) (rest := []) C w fr_hd fX3_count gL_gust_X3_count rfl ⟨Nat.le_of_ble_eq_true rfl, Nat.le_of_ble_eq_true rfl⟩ (kX3_count l D cI cC cS h hn adn hsn ads hh har hw adw (guW σ d side) ς (rcH (guA σ d side) dp hs) (rcH (guA σ d side) dp ha) (rcH (guA σ d side) dp (upN η dp.toNat σ)) (rcP (guA σ d side) dp) τ kd am sd q u 0 bY3 (by omega) _) (q0 := 0) rfl rfl rfl rfl hl (Nat.le_of_ble_eq_true rfl) dL_gust_132 ⟨Nat.le_of_ble_eq_true rfl, Nat.le_of_ble_eq_true rfl⟩) (fun H locs w => ?_)
          rw [show (cnu (guW σ d side) (rcP (guA σ d side) dp) (q 1) 0) = guW σ d side 0 from cnu_k (by omega) (by omega)]
          refine q_iload_n C hl dL_gust_135 rfl 5 rfl ?_
          refine q_iload C hl dL_gust_136 8 rfl ?_
          refine q_isub C dL_gust_138 ?_
          refine q_icmpN (tgt := 146) C dL_gust_139 (by decide) (by rw [g0, hv, ei]) ?_
          refine q_iconst C dL_gust_142 ?_
          refine q_goto (tgt := 147) C dL_gust_143 (by decide) ?_
          exact join147   _ _ w ls (lv_sub hl [2, 3, 4, 5, 6, 7, 8, 1, 0] rfl)
        · have c7 := c7
          have h00 : σ 0 = 0 := c7
          have ga : guA σ d side = -5 := (by unfold guA; rw [if_pos hg, if_pos h00])
          refine q_iload C hl dL_gust_95 0 rfl ?_
          refine q_bipush C dL_gust_97 (by decide) ?_
          refine q_icmpN (tgt := 106) C dL_gust_99 (by decide) ga ?_
          refine q_iconst C dL_gust_102 ?_
          refine q_goto (tgt := 147) C dL_gust_103 (by decide) ?_
          exact join147   _ _ w ls (lv_sub hl [2, 3, 4, 5, 6, 7, 8, 1, 0] rfl)
      · have c1 := c1
        refine lv_aload C.1 C.2.1 dL_gust_30 (lv_at hl 4 rfl) ?_
        refine q_iload C hl dL_gust_32 7 rfl ?_
        refine q_aload_n C hl dL_gust_34 rfl 0 rfl ?_
        refine q_iload C hl dL_gust_35 7 rfl ?_
        refine q_iload_n C hl dL_gust_37 rfl 1 rfl ?_
        refine q_iload_n C hl dL_gust_38 rfl 2 rfl ?_
        refine q_iconst C dL_gust_39 ?_
        refine q_runi C w fr_hd (q_V (As := [.int (jj i), .int (jj d), .int (jj side), .int (jj 2)]) (rest := [.int (jj i), .ref x4]) C w fr_hd fX3_ifGust gL_gust_X3_ifGust rfl ⟨Nat.le_of_ble_eq_true rfl, Nat.le_of_ble_eq_true rfl⟩ (kX3_ifGust l D cI cC cS h hn adn hsn ads hh har hw adw σ ς hs ha η dp τ kd am sd q u i d side 2 bY (by omega) (by omega) (by omega) (by omega) _) (q0 := 0) rfl rfl rfl rfl hl (Nat.le_of_ble_eq_true rfl) dL_gust_40 ⟨Nat.le_of_ble_eq_true rfl, Nat.le_of_ble_eq_true rfl⟩) (fun H locs w => ?_)
        rw [show (ifu σ i d side 2) = wby σ i d side from ifu_2 hi0 (by omega) hg]
        refine q_iast (ws' := uW cI cC cS h hn adn hsn ads hh har hw adw σ ς hs ha η dp τ kd am sd q u ++ [(x4, .inl (cI, 16, .inl (ac (up f4 i (wby σ i d side))))), (x5, .inl (cI, 16, .inl (ac f5)))]) (n := 16) (f := f4) C w 64 0 rfl rfl ⟨by omega, by omega, by omega⟩ dL_gust_43 rfl (fun H locs w => ?_)
        refine lv_aload C.1 C.2.1 dL_gust_44 (lv_at hl 5 rfl) ?_
        refine q_iload C hl dL_gust_46 7 rfl ?_
        refine q_aload_n C hl dL_gust_48 rfl 0 rfl ?_
        refine q_iload C hl dL_gust_49 7 rfl ?_
        refine q_iconst C dL_gust_51 ?_
        refine q_runi C w fr_hd (q_V (As := [.int (jj i), .int (jj 0)]) (rest := [.int (jj i), .ref x5]) C w fr_hd fX3_person gL_gust_X3_person rfl ⟨Nat.le_of_ble_eq_true rfl, Nat.le_of_ble_eq_true rfl⟩ (kX3_person l D cI cC cS h hn adn hsn ads hh har hw adw σ ς hs ha η dp τ kd am sd q u i 0 bY (by omega) (by omega) _) (q0 := 0) rfl rfl rfl rfl hl (Nat.le_of_ble_eq_true rfl) dL_gust_52 ⟨Nat.le_of_ble_eq_true rfl, Nat.le_of_ble_eq_true rfl⟩) (fun H locs w => ?_)
        rw [show (psu σ i 0) = σ (13 + 6 * i + 0) from psu_k (by omega) (by omega) (by omega) (by omega)]
        refine q_iast (ws' := uW cI cC cS h hn adn hsn ads hh har hw adw σ ς hs ha η dp τ kd am sd q u ++ [(x4, .inl (cI, 16, .inl (ac (up f4 i (wby σ i d side))))), (x5, .inl (cI, 16, .inl (ac (up f5 i (σ (13 + 6 * i + 0))))))]) (n := 16) (f := f5) C w 65 0 rfl rfl ⟨by omega, by omega, by omega⟩ dL_gust_55 rfl (fun H locs w => ?_)
        refine q_iload C hl dL_gust_56 6 rfl ?_
        refine q_aload_n C hl dL_gust_58 rfl 0 rfl ?_
        refine q_iload C hl dL_gust_59 7 rfl ?_
        refine q_iload_n C hl dL_gust_61 rfl 1 rfl ?_
        refine q_iload_n C hl dL_gust_62 rfl 2 rfl ?_
        refine q_iconst C dL_gust_63 ?_
        refine q_runi C w fr_hd (q_V (As := [.int (jj i), .int (jj d), .int (jj side), .int (jj 3)]) (rest := [.int (jj v)]) C w fr_hd fX3_ifGust gL_gust_X3_ifGust rfl ⟨Nat.le_of_ble_eq_true rfl, Nat.le_of_ble_eq_true rfl⟩ (kX3_ifGust l D cI cC cS h hn adn hsn ads hh har hw adw σ ς hs ha η dp τ kd am sd q u i d side 3 bY (by omega) (by omega) (by omega) (by omega) _) (q0 := 0) rfl rfl rfl rfl hl (Nat.le_of_ble_eq_true rfl) dL_gust_64 ⟨Nat.le_of_ble_eq_true rfl, Nat.le_of_ble_eq_true rfl⟩) (fun H locs w => ?_)
        rw [show (ifu σ i d side 3) = bI (σ (13 + 6 * i + 2) < wby σ i d side) from ifu_3 hi0 (by omega) hg]
        refine q_iadd C dL_gust_67 ?_
        refine q_istore (lv' := [(6, .int (jj (v + (bI (σ (13 + 6 * i + 2) < wby σ i d side))))), (0, .ref h), (1, .int (jj d)), (2, .int (jj side)), (3, .int (jj (σ 0))), (4, .ref x4), (5, .ref x5), (7, .int (jj i))]) C hl dL_gust_68 (by decide) rfl (fun ls hl => ?_)
        refine q_iinc (lv' := [(7, .int (jj (i + 1))), (6, .int (jj (v + (bI (σ (13 + 6 * i + 2) < wby σ i d side))))), (0, .ref h), (1, .int (jj d)), (2, .int (jj side)), (3, .int (jj (σ 0))), (4, .ref x4), (5, .ref x5)]) C hl dL_gust_70 7 rfl (by decide) rfl (fun ls hl => ?_)
        refine q_goto (tgt := 24) C dL_gust_73 (by decide) ?_
        exact ih24 (i + 1) (v + (bI (σ (13 + 6 * i + 2) < wby σ i d side))) (up f4 i (wby σ i d side)) (up f5 i (σ (13 + 6 * i + 0))) (by omega) (by omega) (by rw [gsm_s σ d side hi0, hv]) (fun y y0 y1 => if ee : y = i then (by rw [ee, up_s]) else (by rw [up_n _ _ ee]; exact h4 y y0 (by omega))) (fun y y0 y1 => if ee : y = i then (by rw [ee, up_s]) else (by rw [up_n _ _ ee]; exact h5 y y0 (by omega))) (by omega) _ _ w ls (lv_sub hl [2, 3, 4, 5, 6, 7, 1, 0] rfl)
  exact loop24 _ 0 0 (fun _ => 0) (fun _ => 0) (by omega) (by omega) rfl (fun y y0 y1 => absurd y1 (by omega)) (fun y y0 y1 => absurd y1 (by omega)) (Nat.lt_succ_self _) _ _ w ls (lv_sub hl [5, 6, 7, 4, 3, 2, 1, 0] rfl)
