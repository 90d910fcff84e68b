theorem und_b {a : Int} (h : 0 ≤ a ∧ a ≤ 4) : 0 ≤ (if a = 0 then 0 else a - 1) ∧ (if a = 0 then 0 else a - 1) ≤ 4 := by split <;> omega
def rL_isBest : Room := { frames := 8, cells := 0, slots := 0, locals := 186 }
theorem fL_isBest : Fc yL_isBest wsL_isBest rL_isBest cL_isBest 11 (some .boolean) 3 := ⟨⟨_, rfl⟩, rfl, rfl, by decide +kernel, by decide +kernel, by decide +kernel⟩
set_option maxHeartbeats 4000000 in
set_option maxRecDepth 10000 in
theorem kL_isBest (l : Launch) (D : va_G) (cI cC cS : ClassId) (h hn : Nat) (adn : Nat → Nat) (hsn : Nat) (ads : Nat → Nat) (hh har hw : Nat) (adw : Nat → Nat) (σ ς : Int → Int) (hs : Nat → Nat) (ha : Nat → Nat → Nat) (η : Nat → Int → Int) (dp : Int) (τ kd am sd q u : Int → Int) (d side : Int) (bJ : Jv σ) (bdp : 0 ≤ dp ∧ dp ≤ 4) (hg : gst d side) : Ki l yL_isBest wsL_isBest rL_isBest D (tz cI cC cS) [.ref h, .int (jj d), .int (jj side)] (uW cI cC cS h hn adn hsn ads hh har hw adw σ ς hs ha η dp τ kd am sd q u) (bI True) (uW cI cC cS h hn adn hsn ads hh har hw adw σ ς ((hbs σ hs ha η dp (σ 0 - 1)).1) ((hbs σ hs ha η dp (σ 0 - 1)).2.1) ((hbs σ hs ha η dp (σ 0 - 1)).2.2.1) ((hbs σ hs ha η dp (σ 0 - 1)).2.2.2) τ kd am sd q u) := by
  have bY := bJ.1
  have hW := bY.1
  have hE := bY.2.1
  have hn2 := hW.2.1
  have hn_ := hW.1
  have hgd := hg.1
  have hgs := hg.2
  have hab0 := awb_b hW hE (side := side) hgd.1 hgd.2
  refine q_entry (cc := cL_isBest) (nL := 11) (ret := (some .boolean)) (by decide) ⟨_, rfl⟩ (Nat.le_of_ble_eq_true rfl) ?_
  intro A pr en s m args below meth c C hin w ls hl
  have w := w
  have hl : lv_has ls 11 [(0, .ref h), (1, .int (jj d)), (2, .int (jj side))] := hl
  refine q_aload_n C hl dL_isBest_0 rfl 0 rfl ?_
  refine q_iload_n C hl dL_isBest_1 rfl 1 rfl ?_
  refine q_iload_n C hl dL_isBest_2 rfl 2 rfl ?_
  refine q_runi C w fr_all (q_V (As := [.int (jj d), .int (jj side)]) (rest := []) C w fr_all fX3_bestSwap gL_isBest_X3_bestSwap rfl ⟨Nat.le_of_ble_eq_true rfl, Nat.le_of_ble_eq_true rfl⟩ (kX3_bestSwap l D cI cC cS h hn adn hsn ads hh har hw adw σ ς hs ha η dp τ kd am sd q u d side bY (by omega) (by omega) _) (q0 := 0) rfl rfl rfl rfl hl (Nat.le_of_ble_eq_true rfl) dL_isBest_3 ⟨Nat.le_refl 0, Nat.le_refl 0⟩) (fun H locs w => ?_)
  refine q_istore_n (lv' := [(3, .int (jj (bsu σ d side))), (0, .ref h), (1, .int (jj d)), (2, .int (jj side))]) C hl dL_isBest_6 rfl (by decide) rfl (fun ls hl => ?_)
  refine q_aload_n C hl dL_isBest_7 rfl 1 rfl ?_
  refine q_iload_n C hl dL_isBest_8 rfl 2 rfl ?_
  refine q_iload_n C hl dL_isBest_9 rfl 3 rfl ?_
  refine q_runi C w fr_all (q_S (As := [.ref h, .int (jj d), .int (jj side)]) (rest := []) C w fr_all fL_all gL_isBest_L_all ⟨Nat.le_of_ble_eq_true rfl, Nat.le_of_ble_eq_true rfl⟩ (kL_all l D cI cC cS h hn adn hsn ads hh har hw adw σ ς hs ha η dp τ kd am sd q u d side bY hg _) rfl rfl hl (Nat.le_of_ble_eq_true rfl) dL_isBest_10 ⟨Nat.le_refl 0, Nat.le_refl 0⟩) (fun H locs w => ?_)
  refine q_istore (lv' := [(4, .int (jj (awb σ d side))), (3, .int (jj (bsu σ d side))), (0, .ref h), (1, .int (jj d)), (2, .int (jj side))]) C hl dL_isBest_13 (by decide) rfl (fun ls hl => ?_)
  refine q_bipush C dL_isBest_15 (by decide) ?_
  refine q_istore (lv' := [(5, .int (jj (-5))), (4, .int (jj (awb σ d side))), (3, .int (jj (bsu σ d side))), (0, .ref h), (1, .int (jj d)), (2, .int (jj side))]) C hl dL_isBest_17 (by decide) rfl (fun ls hl => ?_)
  refine q_iconst C dL_isBest_19 ?_
  refine q_istore (lv' := [(6, .int (jj 0)), (5, .int (jj (-5))), (4, .int (jj (awb σ d side))), (3, .int (jj (bsu σ d side))), (0, .ref h), (1, .int (jj d)), (2, .int (jj side))]) C hl dL_isBest_20 (by decide) rfl (fun ls hl => ?_)
  have loop22 : ∀ (n22 : Nat) (i : Int) (f : Int) (t : Int) (x : H4), (0 ≤ i) → (i ≤ σ 0 - 1 ∨ i = 0) → ((f, t) = bsl σ d side i) → (-5 ≤ f ∧ f ≤ 16) → (0 ≤ t ∧ t ≤ 15984) → (x = hbs σ hs ha η dp i) → (0 ≤ x.2.2.2 ∧ x.2.2.2 ≤ 4) → (σ 0 - i).toNat < n22 → ∀ (H : Heap) (locs : List Loc), Wd D A s (uW cI cC cS h hn adn hsn ads hh har hw adw σ ς (x.1) (x.2.1) (x.2.2.1) (x.2.2.2) τ kd am sd q u) H locs → ∀ ls : Array Slot, lv_has ls 11 [(0, .ref h), (1, .int (jj d)), (2, .int (jj side)), (3, .int (jj (bsu σ d side))), (4, .int (jj t)), (5, .int (jj f)), (6, .int (jj i))] → W pr l en rL_isBest s m args below meth c H locs 0 0 (MQ below (Qi D (tz cI cC cS) (bI True) (uW cI cC cS h hn adn hsn ads hh har hw adw σ ς ((hbs σ hs ha η dp (σ 0 - 1)).1) ((hbs σ hs ha η dp (σ 0 - 1)).2.1) ((hbs σ hs ha η dp (σ 0 - 1)).2.2.1) ((hbs σ hs ha η dp (σ 0 - 1)).2.2.2) τ kd am sd q u) A) args s 0 0 A) (F0 m 22 ls []) := by
    intro n22
    induction n22 with
    | zero => intro i f t x hi0 hi1 hfm hft htb hx hxd hm; exact absurd hm (Nat.not_lt_zero _)
    | succ n22 ih22 =>
      intro i f t x hi0 hi1 hfm hft htb hx hxd hm22 H locs w ls hl
      refine q_iload C hl dL_isBest_22 6 rfl ?_
      refine q_iconst C dL_isBest_24 ?_
      refine q_iadd C dL_isBest_25 ?_
      refine q_aload_n C hl dL_isBest_26 rfl 0 rfl ?_
      refine q_iconst C dL_isBest_27 ?_
      refine q_runi C w fr_all (q_V (As := [.int (jj 0)]) (rest := [.int (jj (i + 1))]) C w fr_all fX3_count gL_isBest_X3_count rfl ⟨Nat.le_of_ble_eq_true rfl, Nat.le_of_ble_eq_true rfl⟩ (kX3_count l D cI cC cS h hn adn hsn ads hh har hw adw σ ς (x.1) (x.2.1) (x.2.2.1) (x.2.2.2) τ kd am sd q u 0 bY (by omega) _) (q0 := 0) rfl rfl rfl rfl hl (Nat.le_of_ble_eq_true rfl) dL_isBest_28 ⟨Nat.le_refl 0, Nat.le_refl 0⟩) (fun H locs w => ?_)
      rw [show (cnu σ (x.2.2.2) (q 1) 0) = σ 0 from cnu_k (by omega) (by omega)]
      refine q_icmp_ge (tgt := 140) C dL_isBest_31 (by decide) ⟨by omega, by omega⟩ ⟨by omega, by omega⟩ (fun c1 => ?_) (fun c1 => ?_)
      · have c1 := c1
        have hie : i = σ 0 - 1 ∨ (i = 0 ∧ σ 0 = 0) := by omega
        have hx2 : hbs σ hs ha η dp (σ 0 - 1) = x := (it_end _ _ hie).trans hx.symm
        have hb2 : bsl σ d side (σ 0 - 1) = (f, t) := (it_end _ _ hie).trans hfm.symm
        have hsb2 : bsu σ d side = f := by rw [bsu_in hg, hb2]
        refine q_iload_n C hl dL_isBest_140 rfl 3 rfl ?_
        refine q_iload C hl dL_isBest_141 5 rfl ?_
        refine q_icmpN (tgt := 150) C dL_isBest_143 (by decide) hsb2 ?_
        refine q_iconst C dL_isBest_146 ?_
        refine q_goto (tgt := 151) C dL_isBest_147 (by decide) ?_
        exact q_zret C w dL_isBest_151 (bI_t trivial).symm (by rw [hx2])
      · have c1 := c1
        have hsb := swu_b bY i
        refine q_aload_n C hl dL_isBest_34 rfl 0 rfl ?_
        refine q_iload C hl dL_isBest_35 6 rfl ?_
        refine q_runi C w fr_all (q_V (As := [.int (jj i)]) (rest := []) C w fr_all fX3_reason gL_isBest_X3_reason rfl ⟨Nat.le_of_ble_eq_true rfl, Nat.le_of_ble_eq_true rfl⟩ (kX3_reason l D cI cC cS h hn adn hsn ads hh har hw adw σ ς (x.1) (x.2.1) (x.2.2.1) (x.2.2.2) τ kd am sd q u i bY (by omega) _) (q0 := 0) rfl rfl rfl rfl hl (Nat.le_of_ble_eq_true rfl) dL_isBest_37 ⟨Nat.le_refl 0, Nat.le_refl 0⟩) (fun H locs w => ?_)
        rw [show (reu σ i) = why σ i from reu_in ⟨hi0, by omega⟩]
        refine q_istore (lv' := [(7, .int (jj (why σ i))), (0, .ref h), (1, .int (jj d)), (2, .int (jj side)), (3, .int (jj (bsu σ d side))), (4, .int (jj t)), (5, .int (jj f)), (6, .int (jj i))]) C hl dL_isBest_40 (by decide) rfl (fun ls hl => ?_)
        refine q_aload_n C hl dL_isBest_42 rfl 1 rfl ?_
        refine q_iload C hl dL_isBest_43 7 rfl ?_
        refine q_iconst C dL_isBest_45 ?_
        refine q_iadd C dL_isBest_46 ?_
        refine q_iconst C dL_isBest_47 ?_
        refine q_runi C w fr_all (q_V (As := [.int (jj (i + 1)), .int (jj 4)]) (rest := []) C w fr_all fX3_person gL_isBest_X3_person rfl ⟨Nat.le_of_ble_eq_true rfl, Nat.le_of_ble_eq_true rfl⟩ (kX3_person l D cI cC cS h hn adn hsn ads hh har hw adw σ ς (x.1) (x.2.1) (x.2.2.1) (x.2.2.2) τ kd am sd q u (i + 1) 4 bY (by omega) (by omega) _) (q0 := 0) rfl rfl rfl rfl hl (Nat.le_of_ble_eq_true rfl) dL_isBest_48 ⟨Nat.le_refl 0, Nat.le_refl 0⟩) (fun H locs w => ?_)
        rw [show (psu σ (i + 1) 4) = σ (13 + 6 * (i + 1) + 4) from psu_k (by omega) (by omega) (by omega) (by omega)]
        refine q_istore (lv' := [(8, .int (jj (σ (13 + 6 * (i + 1) + 4)))), (7, .int (jj (why σ i))), (0, .ref h), (1, .int (jj d)), (2, .int (jj side)), (3, .int (jj (bsu σ d side))), (4, .int (jj t)), (5, .int (jj f)), (6, .int (jj i))]) C hl dL_isBest_51 (by decide) rfl (fun ls hl => ?_)
        refine q_aload_n C hl dL_isBest_53 rfl 2 rfl ?_
        refine q_iload C hl dL_isBest_54 8 rfl ?_
        refine q_runi C w fr_all (q_V (As := [.int (jj i)]) (rest := []) C w fr_all fX3_swap gL_isBest_X3_swap rfl ⟨Nat.le_of_ble_eq_true rfl, Nat.le_of_ble_eq_true rfl⟩ (kX3_swap l D cI cC cS h hn adn hsn ads hh har hw adw σ ς (x.1) (x.2.1) (x.2.2.1) (x.2.2.2) τ kd am sd q u i bY hxd (by omega) ⟨hsb.1, hsb.2.1⟩ _) (q0 := 0) rfl rfl rfl rfl hl (Nat.le_of_ble_eq_true rfl) dL_isBest_56 ⟨Nat.le_refl 0, Nat.le_refl 0⟩) (fun H locs w => ?_)
        refine q_istore (lv' := [(9, .int (jj (swu σ i))), (8, .int (jj (σ (13 + 6 * (i + 1) + 4)))), (7, .int (jj (why σ i))), (0, .ref h), (1, .int (jj d)), (2, .int (jj side)), (3, .int (jj (bsu σ d side))), (4, .int (jj t)), (5, .int (jj f)), (6, .int (jj i))]) C hl dL_isBest_59 (by decide) rfl (fun ls hl => ?_)
        have hsw := swu_in (σ := σ) (p := i) ⟨hi0, by omega⟩
        have hwq := hW.2.2 (i + 1) (by omega) (by omega)
        have hwy := why_b σ i
        have join83 :   ∀ (H : Heap) (locs : List Loc), Wd D A s (uW cI cC cS h hn adn hsn ads hh har hw adw (swv σ i) ς (rcH (swu σ i) (x.2.2.2) (x.1)) (rcH (swu σ i) (x.2.2.2) (x.2.1)) (rcH (swu σ i) (x.2.2.2) (upN (x.2.2.1) (x.2.2.2).toNat σ)) (rcP (swu σ i) (x.2.2.2)) τ kd am sd q u) H locs → ∀ ls : Array Slot, lv_has ls 11 [(0, .ref h), (1, .int (jj d)), (2, .int (jj side)), (3, .int (jj (bsu σ d side))), (4, .int (jj t)), (5, .int (jj f)), (6, .int (jj i)), (7, .int (jj (why σ i))), (8, .int (jj (σ (13 + 6 * (i + 1) + 4)))), (9, .int (jj (swu σ i)))] → W pr l en rL_isBest s m args below meth c H locs 0 0 (MQ below (Qi D (tz cI cC cS) (bI True) (uW cI cC cS h hn adn hsn ads hh har hw adw σ ς ((hbs σ hs ha η dp (σ 0 - 1)).1) ((hbs σ hs ha η dp (σ 0 - 1)).2.1) ((hbs σ hs ha η dp (σ 0 - 1)).2.2.1) ((hbs σ hs ha η dp (σ 0 - 1)).2.2.2) τ kd am sd q u) A) args s 0 0 A) (F0 m 83 ls []) := by
          intro   H locs w ls hl
          refine q_iload C hl dL_isBest_83 9 rfl ?_
          refine q_if_lt (tgt := 134) C dL_isBest_85 (by decide) ⟨by omega, by omega⟩ (fun c2 => ?_) (fun c2 => ?_)
          · have c2 := c2
            have hy : 0 < why σ i := Classical.byContradiction (fun zz => by rw [if_neg zz] at hsw; omega)
            rw [show swv σ i = σ from ((swu_b bY i).2.2 (by omega)).2] at w
            refine q_iinc (lv' := [(6, .int (jj (i + 1))), (0, .ref h), (1, .int (jj d)), (2, .int (jj side)), (3, .int (jj (bsu σ d side))), (4, .int (jj t)), (5, .int (jj f)), (7, .int (jj (why σ i))), (8, .int (jj (σ (13 + 6 * (i + 1) + 4)))), (9, .int (jj (swu σ i)))]) C hl dL_isBest_134 6 rfl (by decide) rfl (fun ls hl => ?_)
            refine q_goto (tgt := 22) C dL_isBest_137 (by decide) ?_
            exact ih22 (i + 1) f t (rcH (swu σ i) (x.2.2.2) (x.1), rcH (swu σ i) (x.2.2.2) (x.2.1), rcH (swu σ i) (x.2.2.2) (upN (x.2.2.1) (x.2.2.2).toNat σ), rcP (swu σ i) (x.2.2.2)) (by omega) (by omega) (by rw [bsl_s σ d side hi0, ← hfm]; first | exact (if_neg (by omega)).symm | (show _ = (if why σ i = 0 then (if awb (xch σ i 4) d side < t then (i, awb (xch σ i 4) d side) else (f, t)) else (f, t)); rw [if_pos (by omega), hz, hz2]; by_cases cc : awb (xch σ i 4) d side < t <;> simp [cc])) (by first | omega | (rw [hz]; split <;> omega)) (by first | omega | (rw [hz2]; split <;> omega)) (by rw [hbs_s σ hs ha η dp hi0, ← hx]; first | exact (if_pos (by omega)).symm | exact (if_neg (by omega)).symm) (by first | exact rcP_b hxd | exact und_b (rcP_b hxd)) (by omega) _ _ w ls (lv_sub hl [1, 2, 3, 4, 5, 6, 0] rfl)
          · have c2 := c2
            have hy : ¬ 0 < why σ i := (fun zz => by rw [if_pos zz] at hsw; omega)
            refine q_aload_n C hl dL_isBest_88 rfl 0 rfl ?_
            refine q_iload_n C hl dL_isBest_89 rfl 1 rfl ?_
            refine q_iload_n C hl dL_isBest_90 rfl 2 rfl ?_
            refine q_runi C w fr_all (q_S (As := [.ref h, .int (jj d), .int (jj side)]) (rest := []) C w fr_all fL_all gL_isBest_L_all ⟨Nat.le_of_ble_eq_true rfl, Nat.le_of_ble_eq_true rfl⟩ (kL_all l D cI cC cS h hn adn hsn ads hh har hw adw (swv σ i) ς (rcH (swu σ i) (x.2.2.2) (x.1)) (rcH (swu σ i) (x.2.2.2) (x.2.1)) (rcH (swu σ i) (x.2.2.2) (upN (x.2.2.1) (x.2.2.2).toNat σ)) (rcP (swu σ i) (x.2.2.2)) τ kd am sd q u d side (sw_I bY i) hg _) rfl rfl hl (Nat.le_of_ble_eq_true rfl) dL_isBest_91 ⟨Nat.le_refl 0, Nat.le_refl 0⟩) (fun H locs w => ?_)
            rw [show (awb (swv σ i) d side) = awb (xch σ i 4) d side from (by rw [show swv σ i = sw3 σ i from if_pos ⟨⟨hi0, by omega⟩, hy⟩]; exact awb_sw hi0 d side)]
            refine q_istore (lv' := [(10, .int (jj (awb (xch σ i 4) d side))), (0, .ref h), (1, .int (jj d)), (2, .int (jj side)), (3, .int (jj (bsu σ d side))), (4, .int (jj t)), (5, .int (jj f)), (6, .int (jj i)), (7, .int (jj (why σ i))), (8, .int (jj (σ (13 + 6 * (i + 1) + 4)))), (9, .int (jj (swu σ i)))]) C hl dL_isBest_94 (by decide) rfl (fun ls hl => ?_)
            have hab := awb_b (xch_W hW hi0 (by omega)) (xch_E hE hi0) (side := side) hgd.1 hgd.2
            have join110 : ∀ (z : Int), (z = if awb (xch σ i 4) d side < t then i else f) →  ∀ (H : Heap) (locs : List Loc), Wd D A s (uW cI cC cS h hn adn hsn ads hh har hw adw (swv σ i) ς (rcH (swu σ i) (x.2.2.2) (x.1)) (rcH (swu σ i) (x.2.2.2) (x.2.1)) (rcH (swu σ i) (x.2.2.2) (upN (x.2.2.1) (x.2.2.2).toNat σ)) (rcP (swu σ i) (x.2.2.2)) τ kd am sd q u) H locs → ∀ ls : Array Slot, lv_has ls 11 [(0, .ref h), (1, .int (jj d)), (2, .int (jj side)), (3, .int (jj (bsu σ d side))), (4, .int (jj t)), (5, .int (jj f)), (6, .int (jj i)), (7, .int (jj (why σ i))), (8, .int (jj (σ (13 + 6 * (i + 1) + 4)))), (9, .int (jj (swu σ i))), (10, .int (jj (awb (xch σ i 4) d side)))] → W pr l en rL_isBest s m args below meth c H locs 0 0 (MQ below (Qi D (tz cI cC cS) (bI True) (uW cI cC cS h hn adn hsn ads hh har hw adw σ ς ((hbs σ hs ha η dp (σ 0 - 1)).1) ((hbs σ hs ha η dp (σ 0 - 1)).2.1) ((hbs σ hs ha η dp (σ 0 - 1)).2.2.1) ((hbs σ hs ha η dp (σ 0 - 1)).2.2.2) τ kd am sd q u) A) args s 0 0 A) (F0 m 110 ls [.int (jj z)]) := by
              intro z hz H locs w ls hl
              refine q_istore (lv' := [(5, .int (jj z)), (0, .ref h), (1, .int (jj d)), (2, .int (jj side)), (3, .int (jj (bsu σ d side))), (4, .int (jj t)), (6, .int (jj i)), (7, .int (jj (why σ i))), (8, .int (jj (σ (13 + 6 * (i + 1) + 4)))), (9, .int (jj (swu σ i))), (10, .int (jj (awb (xch σ i 4) d side)))]) C hl dL_isBest_110 (by decide) rfl (fun ls hl => ?_)
              have join126 : ∀ (z2 : Int), (z2 = if awb (xch σ i 4) d side < t then awb (xch σ i 4) d side else t) →  ∀ (H : Heap) (locs : List Loc), Wd D A s (uW cI cC cS h hn adn hsn ads hh har hw adw (swv σ i) ς (rcH (swu σ i) (x.2.2.2) (x.1)) (rcH (swu σ i) (x.2.2.2) (x.2.1)) (rcH (swu σ i) (x.2.2.2) (upN (x.2.2.1) (x.2.2.2).toNat σ)) (rcP (swu σ i) (x.2.2.2)) τ kd am sd q u) H locs → ∀ ls : Array Slot, lv_has ls 11 [(0, .ref h), (1, .int (jj d)), (2, .int (jj side)), (3, .int (jj (bsu σ d side))), (4, .int (jj t)), (5, .int (jj z)), (6, .int (jj i)), (7, .int (jj (why σ i))), (8, .int (jj (σ (13 + 6 * (i + 1) + 4)))), (9, .int (jj (swu σ i))), (10, .int (jj (awb (xch σ i 4) d side)))] → W pr l en rL_isBest s m args below meth c H locs 0 0 (MQ below (Qi D (tz cI cC cS) (bI True) (uW cI cC cS h hn adn hsn ads hh har hw adw σ ς ((hbs σ hs ha η dp (σ 0 - 1)).1) ((hbs σ hs ha η dp (σ 0 - 1)).2.1) ((hbs σ hs ha η dp (σ 0 - 1)).2.2.1) ((hbs σ hs ha η dp (σ 0 - 1)).2.2.2) τ kd am sd q u) A) args s 0 0 A) (F0 m 126 ls [.int (jj z2)]) := by
                intro z2 hz2 H locs w ls hl
                refine q_istore (lv' := [(4, .int (jj z2)), (0, .ref h), (1, .int (jj d)), (2, .int (jj side)), (3, .int (jj (bsu σ d side))), (5, .int (jj z)), (6, .int (jj i)), (7, .int (jj (why σ i))), (8, .int (jj (σ (13 + 6 * (i + 1) + 4)))), (9, .int (jj (swu σ i))), (10, .int (jj (awb (xch σ i 4) d side)))]) C hl dL_isBest_126 (by decide) rfl (fun ls hl => ?_)
                refine q_aload_n C hl dL_isBest_128 rfl 1 rfl ?_
                refine q_runi C w fr_all (q_V (As := []) (rest := []) C w fr_all fX3_undo gL_isBest_X3_undo rfl ⟨Nat.le_of_ble_eq_true rfl, Nat.le_of_ble_eq_true rfl⟩ (kX3_undo l D cI cC cS h hn adn hsn ads hh har hw adw (swv σ i) ς (rcH (swu σ i) (x.2.2.2) (x.1)) (rcH (swu σ i) (x.2.2.2) (x.2.1)) (rcH (swu σ i) (x.2.2.2) (upN (x.2.2.1) (x.2.2.2).toNat σ)) (rcP (swu σ i) (x.2.2.2)) τ kd am sd q u  (rcP_b hxd) _) (q0 := 0) rfl rfl rfl rfl hl (Nat.le_of_ble_eq_true rfl) dL_isBest_129 ⟨Nat.le_refl 0, Nat.le_refl 0⟩) (fun H locs w => ?_)
                refine q_istore (lv' := [(9, .int (jj (if (rcP (swu σ i) (x.2.2.2)) = 0 then -5 else (rcP (swu σ i) (x.2.2.2)) - 1))), (4, .int (jj z2)), (0, .ref h), (1, .int (jj d)), (2, .int (jj side)), (3, .int (jj (bsu σ d side))), (5, .int (jj z)), (6, .int (jj i)), (7, .int (jj (why σ i))), (8, .int (jj (σ (13 + 6 * (i + 1) + 4)))), (10, .int (jj (awb (xch σ i 4) d side)))]) C hl dL_isBest_132 (by decide) rfl (fun ls hl => ?_)
                rw [show (if (rcP (swu σ i) (x.2.2.2)) = 0 then (swv σ i) else (rcH (swu σ i) (x.2.2.2) (upN (x.2.2.1) (x.2.2.2).toNat σ)) ((rcP (swu σ i) (x.2.2.2)) - 1).toNat) = σ from und_e (by omega) hxd] at w
                refine q_iinc (lv' := [(6, .int (jj (i + 1))), (9, .int (jj (if (rcP (swu σ i) (x.2.2.2)) = 0 then -5 else (rcP (swu σ i) (x.2.2.2)) - 1))), (4, .int (jj z2)), (0, .ref h), (1, .int (jj d)), (2, .int (jj side)), (3, .int (jj (bsu σ d side))), (5, .int (jj z)), (7, .int (jj (why σ i))), (8, .int (jj (σ (13 + 6 * (i + 1) + 4)))), (10, .int (jj (awb (xch σ i 4) d side)))]) C hl dL_isBest_134 7 rfl (by decide) rfl (fun ls hl => ?_)
                refine q_goto (tgt := 22) C dL_isBest_137 (by decide) ?_
                exact ih22 (i + 1) z z2 (rcH (swu σ i) (x.2.2.2) (x.1), rcH (swu σ i) (x.2.2.2) (x.2.1), rcH (swu σ i) (x.2.2.2) (upN (x.2.2.1) (x.2.2.2).toNat σ), if (rcP (swu σ i) (x.2.2.2)) = 0 then 0 else (rcP (swu σ i) (x.2.2.2)) - 1) (by omega) (by omega) (by rw [bsl_s σ d side hi0, ← hfm]; first | exact (if_neg (by omega)).symm | (show _ = (if why σ i = 0 then (if awb (xch σ i 4) d side < t then (i, awb (xch σ i 4) d side) else (f, t)) else (f, t)); rw [if_pos (by omega), hz, hz2]; by_cases cc : awb (xch σ i 4) d side < t <;> simp [cc])) (by first | omega | (rw [hz]; split <;> omega)) (by first | omega | (rw [hz2]; split <;> omega)) (by rw [hbs_s σ hs ha η dp hi0, ← hx]; first | exact (if_pos (by omega)).symm | exact (if_neg (by omega)).symm) (by first | exact rcP_b hxd | exact und_b (rcP_b hxd)) (by omega) _ _ w ls (lv_sub hl [3, 4, 5, 6, 2, 7, 0] rfl)
              refine q_iload C hl dL_isBest_112 10 rfl ?_
              refine q_iload C hl dL_isBest_114 5 rfl ?_
              refine q_icmp_ge (tgt := 124) C dL_isBest_116 (by decide) ⟨by omega, by omega⟩ ⟨by omega, by omega⟩ (fun c3 => ?_) (fun c3 => ?_)
              · have c3 := c3
                refine q_iload C hl dL_isBest_124 5 rfl ?_
                exact join126 t (by first | exact (if_pos (by omega)).symm | exact (if_neg (by omega)).symm) _ _ w ls (lv_sub hl [1, 2, 3, 4, 5, 0, 6, 7, 8, 9, 10] rfl)
              · have c3 := c3
                refine q_iload C hl dL_isBest_119 10 rfl ?_
                refine q_goto (tgt := 126) C dL_isBest_121 (by decide) ?_
                exact join126 (awb (xch σ i 4) d side) (by first | exact (if_pos (by omega)).symm | exact (if_neg (by omega)).symm) _ _ w ls (lv_sub hl [1, 2, 3, 4, 5, 0, 6, 7, 8, 9, 10] rfl)
            refine q_iload C hl dL_isBest_96 0 rfl ?_
            refine q_iload C hl dL_isBest_98 5 rfl ?_
            refine q_icmp_ge (tgt := 108) C dL_isBest_100 (by decide) ⟨by omega, by omega⟩ ⟨by omega, by omega⟩ (fun c4 => ?_) (fun c4 => ?_)
            · have c4 := c4
              refine q_iload C hl dL_isBest_108 6 rfl ?_
              exact join110 f (by first | exact (if_pos (by omega)).symm | exact (if_neg (by omega)).symm) _ _ w ls (lv_sub hl [1, 2, 3, 4, 5, 6, 7, 8, 9, 10, 0] rfl)
            · have c4 := c4
              refine q_iload C hl dL_isBest_103 7 rfl ?_
              refine q_goto (tgt := 110) C dL_isBest_105 (by decide) ?_
              exact join110 i (by first | exact (if_pos (by omega)).symm | exact (if_neg (by omega)).symm) _ _ w ls (lv_sub hl [1, 2, 3, 4, 5, 6, 7, 8, 9, 10, 0] rfl)
        refine q_iload C hl dL_isBest_61 0 rfl ?_
        refine q_iload C hl dL_isBest_63 2 rfl ?_
        refine q_if_le (tgt := 76) C dL_isBest_65 (by decide) ⟨by omega, by omega⟩ (fun c5 => ?_) (fun c5 => ?_)
        · have c5 := c5
          refine q_iload C hl dL_isBest_76 1 rfl ?_
          refine q_icmpE (tgt := 83) C dL_isBest_78 (by decide) (by first | exact hsw.trans (if_pos (by omega)) | exact hsw.trans (if_neg (by omega))) ?_
          exact join83   _ _ w ls (lv_sub hl [3, 4, 5, 6, 7, 8, 9, 2, 1, 0] rfl)
        · have c5 := c5
          refine q_bipush C dL_isBest_68 (by decide) ?_
          refine q_iload C hl dL_isBest_70 2 rfl ?_
          refine q_isub C dL_isBest_72 ?_
          refine q_goto (tgt := 78) C dL_isBest_73 (by decide) ?_
          refine q_icmpE (tgt := 83) C dL_isBest_78 (by decide) (by first | exact hsw.trans (if_pos (by omega)) | exact hsw.trans (if_neg (by omega))) ?_
          exact join83   _ _ w ls (lv_sub hl [3, 4, 5, 6, 7, 8, 9, 2, 1, 0] rfl)
  exact loop22 _ 0 (-5) (awb σ d side) (hs, ha, η, dp) (by omega) (by omega) rfl (by omega) (by omega) rfl bdp (Nat.lt_succ_self _) _ _ w ls (lv_sub hl [4, 5, 6, 3, 2, 1, 0] rfl)
