/-! The law: what it asks of a state. -/
def rL_reaches : Room := { frames := 5, cells := 0, slots := 0, locals := 108 }
theorem fL_reaches : Fc yL_reaches wsL_reaches rL_reaches cL_reaches 4 (some .boolean) 3 := ⟨⟨_, rfl⟩, rfl, rfl, by decide +kernel, by decide +kernel, by decide +kernel⟩
set_option maxHeartbeats 4000000 in
set_option maxRecDepth 10000 in
theorem kL_reaches (l : Launch) (D : va_G) (cI cC cS : ClassId) (h hn : Nat) (adn : Nat → Nat) (hsn : Nat) (ads : Nat → Nat) (hh har hw : Nat) (adw : Nat → Nat) (σ ς : Int → Int) (hs : Nat → Nat) (ha : Nat → Nat → Nat) (η : Nat → Int → Int) (dp : Int) (τ kd am sd q u : Int → Int) (um pl : Int) (bY : Iv σ) (hu : 0 ≤ um ∧ um < σ 0) (hpl : -100 ≤ pl ∧ pl ≤ 100) : Ki l yL_reaches wsL_reaches rL_reaches D (tz cI cC cS) [.ref h, .int (jj um), .int (jj pl)] (uW cI cC cS h hn adn hsn ads hh har hw adw σ ς hs ha η dp τ kd am sd q u) (bI (hit σ um pl)) (uW cI cC cS h hn adn hsn ads hh har hw adw σ ς hs ha η dp τ kd am sd q u) := by
  have hq := bY.1.2.2 um hu.1 hu.2
  have hn2 := bY.1.2.1
  refine q_entry (cc := cL_reaches) (nL := 4) (ret := (some .boolean)) (by decide) ⟨_, rfl⟩ (Nat.le_of_ble_eq_true rfl) ?_
  intro A pr en s m args below meth c C hin w ls hl
  have w := w
  have hl : lv_has ls 4 [(0, .ref h), (1, .int (jj um)), (2, .int (jj pl))] := hl
  refine q_aload_n C hl dL_reaches_0 rfl 0 rfl ?_
  refine q_iload_n C hl dL_reaches_1 rfl 1 rfl ?_
  refine q_iconst C dL_reaches_2 ?_
  refine q_runi C w fr_all (q_V (As := [.int (jj um), .int (jj 4)]) (rest := []) C w fr_all fX3_person gL_reaches_X3_person rfl ⟨Nat.le_of_ble_eq_true rfl, Nat.le_of_ble_eq_true rfl⟩ (kX3_person l D cI cC cS h hn adn hsn ads hh har hw adw σ ς hs ha η dp τ kd am sd q u um 4 bY (by omega) (by omega) _) (q0 := 0) rfl rfl rfl rfl hl (Nat.le_of_ble_eq_true rfl) dL_reaches_3 ⟨Nat.le_refl 0, Nat.le_refl 0⟩) (fun H locs w => ?_)
  rw [show (psu σ um 4) = σ (13 + 6 * um + 4) from psu_k (by omega) (by omega) (by omega) (by omega)]
  refine q_istore_n (lv' := [(3, .int (jj (σ (13 + 6 * um + 4)))), (0, .ref h), (1, .int (jj um)), (2, .int (jj pl))]) C hl dL_reaches_6 rfl (by decide) rfl (fun ls hl => ?_)
  refine q_iload_n C hl dL_reaches_7 rfl 0 rfl ?_
  refine q_if_le (tgt := 48) C dL_reaches_8 (by decide) ⟨by omega, by omega⟩ (fun c1 => ?_) (fun c1 => ?_)
  · have c1 := c1
    refine q_iconst C dL_reaches_48 ?_
    exact q_zret C w dL_reaches_49 (by first | exact (bI_t ((hit_iff hu.1 hu.2).mpr (by omega))).symm | exact (bI_f (fun zz => by have := (hit_iff hu.1 hu.2).mp zz; omega)).symm) rfl
  · have c1 := c1
    refine q_iload_n C hl dL_reaches_11 rfl 3 rfl ?_
    refine q_if_lt (tgt := 48) C dL_reaches_12 (by decide) ⟨by omega, by omega⟩ (fun c2 => ?_) (fun c2 => ?_)
    · have c2 := c2
      refine q_iconst C dL_reaches_48 ?_
      exact q_zret C w dL_reaches_49 (by first | exact (bI_t ((hit_iff hu.1 hu.2).mpr (by omega))).symm | exact (bI_f (fun zz => by have := (hit_iff hu.1 hu.2).mp zz; omega)).symm) rfl
    · have c2 := c2
      refine q_iload_n C hl dL_reaches_15 rfl 3 rfl ?_
      refine q_aload_n C hl dL_reaches_16 rfl 1 rfl ?_
      refine q_iconst C dL_reaches_17 ?_
      refine q_runi C w fr_all (q_V (As := [.int (jj 0)]) (rest := [.int (jj pl)]) C w fr_all fX3_count gL_reaches_X3_count rfl ⟨Nat.le_of_ble_eq_true rfl, Nat.le_of_ble_eq_true rfl⟩ (kX3_count l D cI cC cS h hn adn hsn ads hh har hw adw σ ς hs ha η dp τ kd am sd q u 0 bY (by omega) _) (q0 := 0) rfl rfl rfl rfl hl (Nat.le_of_ble_eq_true rfl) dL_reaches_18 ⟨Nat.le_refl 0, Nat.le_refl 0⟩) (fun H locs w => ?_)
      rw [show (cnu σ dp (q 1) 0) = σ 0 from cnu_k (by omega) (by omega)]
      refine q_icmp_ge (tgt := 48) C dL_reaches_21 (by decide) ⟨by omega, by omega⟩ ⟨by omega, by omega⟩ (fun c3 => ?_) (fun c3 => ?_)
      · have c3 := c3
        refine q_iconst C dL_reaches_48 ?_
        exact q_zret C w dL_reaches_49 (by first | exact (bI_t ((hit_iff hu.1 hu.2).mpr (by omega))).symm | exact (bI_f (fun zz => by have := (hit_iff hu.1 hu.2).mp zz; omega)).symm) rfl
      · have c3 := c3
        refine q_iload_n C hl dL_reaches_24 rfl 3 rfl ?_
        refine q_iload_n C hl dL_reaches_25 rfl 2 rfl ?_
        refine q_iload_n C hl dL_reaches_26 rfl 0 rfl ?_
        refine q_iconst C dL_reaches_27 ?_
        refine q_idiv C dL_reaches_28 ⟨by omega, by omega⟩ ⟨by omega, by omega⟩ ?_
        refine q_isub C dL_reaches_29 ?_
        refine q_icmp_lt (tgt := 48) C dL_reaches_30 (by decide) ⟨by omega, by omega⟩ ⟨by omega, by omega⟩ (fun c4 => ?_) (fun c4 => ?_)
        · have c4 := c4
          refine q_iconst C dL_reaches_48 ?_
          exact q_zret C w dL_reaches_49 (by first | exact (bI_t ((hit_iff hu.1 hu.2).mpr (by omega))).symm | exact (bI_f (fun zz => by have := (hit_iff hu.1 hu.2).mp zz; omega)).symm) rfl
        · have c4 := c4
          refine q_iload_n C hl dL_reaches_33 rfl 3 rfl ?_
          refine q_iload_n C hl dL_reaches_34 rfl 2 rfl ?_
          refine q_iload_n C hl dL_reaches_35 rfl 0 rfl ?_
          refine q_iconst C dL_reaches_36 ?_
          refine q_isub C dL_reaches_37 ?_
          refine q_iconst C dL_reaches_38 ?_
          refine q_idiv C dL_reaches_39 ⟨by omega, by omega⟩ ⟨by omega, by omega⟩ ?_
          refine q_iadd C dL_reaches_40 ?_
          refine q_icmp_gt (tgt := 48) C dL_reaches_41 (by decide) ⟨by omega, by omega⟩ ⟨by omega, by omega⟩ (fun c5 => ?_) (fun c5 => ?_)
          · have c5 := c5
            refine q_iconst C dL_reaches_48 ?_
            exact q_zret C w dL_reaches_49 (by first | exact (bI_t ((hit_iff hu.1 hu.2).mpr (by omega))).symm | exact (bI_f (fun zz => by have := (hit_iff hu.1 hu.2).mp zz; omega)).symm) rfl
          · have c5 := c5
            refine q_iconst C dL_reaches_44 ?_
            refine q_goto (tgt := 49) C dL_reaches_45 (by decide) ?_
            exact q_zret C w dL_reaches_49 (by first | exact (bI_t ((hit_iff hu.1 hu.2).mpr (by omega))).symm | exact (bI_f (fun zz => by have := (hit_iff hu.1 hu.2).mp zz; omega)).symm) rfl

def rL_isGust : Room := { frames := 6, cells := 0, slots := 0, locals := 138 }
theorem fL_isGust : Fc yL_isGust wsL_isGust rL_isGust cL_isGust 8 (some .boolean) 4 := ⟨⟨_, rfl⟩, rfl, rfl, by decide +kernel, by decide +kernel, by decide +kernel⟩
set_option maxHeartbeats 4000000 in
set_option maxRecDepth 10000 in
theorem kL_isGust (l : Launch) (D : va_G) (cI cC cS : ClassId) (h hn : Nat) (adn : Nat → Nat) (hsn : Nat) (ads : Nat → Nat) (hh har hw : Nat) (adw : Nat → Nat) (σ ς : Int → Int) (hs : Nat → Nat) (ha : Nat → Nat → Nat) (η : Nat → Int → Int) (dp : Int) (τ kd am sd q u : Int → Int) (p d side : Int) (bY : Iv σ) (hp : 0 ≤ p ∧ p < σ 0) (hg : gst d side) : Ki l yL_isGust wsL_isGust rL_isGust D (tz cI cC cS) [.ref h, .int (jj p), .int (jj d), .int (jj side)] (uW cI cC cS h hn adn hsn ads hh har hw adw σ ς hs ha η dp τ kd am sd q u) (bI True) (uW cI cC cS h hn adn hsn ads hh har hw adw σ ς hs ha η dp τ kd am sd q u) := by
  have hW := bY.1
  have hn2 := hW.2.1
  have hn_ := hW.1
  have hgd := hg.1
  have hgs := hg.2
  have hE := bY.2.1 p hp.1 hp.2
  have hP := bY.2.2.1 p hp.1 hp.2
  have hwb := wby_b hW (p := p) (side := side) hgd.1 hgd.2 hE.1
  have hwt := wtr_b hW p side hgd.1 hgd.2
  have hrn := rnf_b σ p hn_
  have hru := run_b hrn.1 (Int.le_trans hrn.2 hn2) hgd.1 hgd.2
  have hbb := And.intro (bI_lo (0 < cvs σ p side (σ 0))) (bI_hi (0 < cvs σ p side (σ 0)))
  refine q_entry (cc := cL_isGust) (nL := 8) (ret := (some .boolean)) (by decide) ⟨_, rfl⟩ (Nat.le_of_ble_eq_true rfl) ?_
  intro A pr en s m args below meth c C hin w ls hl
  have w := w
  have hl : lv_has ls 8 [(0, .ref h), (1, .int (jj p)), (2, .int (jj d)), (3, .int (jj side))] := hl
  refine q_iconst C dL_isGust_0 ?_
  refine q_istore (lv' := [(4, .int (jj 0)), (0, .ref h), (1, .int (jj p)), (2, .int (jj d)), (3, .int (jj side))]) C hl dL_isGust_1 (by decide) rfl (fun ls hl => ?_)
  refine q_iconst C dL_isGust_3 ?_
  refine q_istore (lv' := [(5, .int (jj 0)), (4, .int (jj 0)), (0, .ref h), (1, .int (jj p)), (2, .int (jj d)), (3, .int (jj side))]) C hl dL_isGust_4 (by decide) rfl (fun ls hl => ?_)
  refine q_iconst C dL_isGust_6 ?_
  refine q_istore (lv' := [(6, .int (jj 0)), (5, .int (jj 0)), (4, .int (jj 0)), (0, .ref h), (1, .int (jj p)), (2, .int (jj d)), (3, .int (jj side))]) C hl dL_isGust_7 (by decide) rfl (fun ls hl => ?_)
  have loop9 : ∀ (n9 : Nat) (i : Int) (v : Int) (r : Int), (0 ≤ i) → (i ≤ σ 0) → (v = cvs σ p side i) → (r = rnf σ p i) → (σ 0 - i).toNat < n9 → ∀ (H : Heap) (locs : List Loc), Wd D A s (uW cI cC cS h hn adn hsn ads hh har hw adw σ ς hs ha η dp τ kd am sd q u) H locs → ∀ ls : Array Slot, lv_has ls 8 [(0, .ref h), (1, .int (jj p)), (2, .int (jj d)), (3, .int (jj side)), (4, .int (jj v)), (5, .int (jj r)), (6, .int (jj i))] → W pr l en rL_isGust s m args below meth c H locs 0 0 (MQ below (Qi D (tz cI cC cS) (bI True) (uW cI cC cS h hn adn hsn ads hh har hw adw σ ς hs ha η dp τ kd am sd q u) A) args s 0 0 A) (F0 m 9 ls []) := by
    intro n9
    induction n9 with
    | zero => intro i v r hi0 hi1 hv hr hm; exact absurd hm (Nat.not_lt_zero _)
    | succ n9 ih9 =>
      intro i v r hi0 hi1 hv hr hm9 H locs w ls hl
      have hcb := cvs_b σ p side hi0
      have hrb := rnf_b σ p hi0
      refine q_iload C hl dL_isGust_9 6 rfl ?_
      refine q_aload_n C hl dL_isGust_11 rfl 0 rfl ?_
      refine q_iconst C dL_isGust_12 ?_
      refine q_runi C w fr_all (q_V (As := [.int (jj 0)]) (rest := [.int (jj i)]) C w fr_all fX3_count gL_isGust_X3_count rfl ⟨Nat.le_of_ble_eq_true rfl, Nat.le_of_ble_eq_true rfl⟩ (kX3_count l D cI cC cS h hn adn hsn ads hh har hw adw σ ς hs ha η dp τ kd am sd q u 0 bY (by omega) _) (q0 := 0) rfl rfl rfl rfl hl (Nat.le_of_ble_eq_true rfl) dL_isGust_13 ⟨Nat.le_refl 0, Nat.le_refl 0⟩) (fun H locs w => ?_)
      rw [show (cnu σ dp (q 1) 0) = σ 0 from cnu_k (by omega) (by omega)]
      refine q_icmp_ge (tgt := 122) C dL_isGust_16 (by decide) ⟨by omega, by omega⟩ ⟨by omega, by omega⟩ (fun c1 => ?_) (fun c1 => ?_)
      · have c1 := c1
        have ei : i = σ 0 := by omega
        have hv2 : v = cvs σ p side (σ 0) := by rw [hv, ei]
        have hr2 : r = rnf σ p (σ 0) := by rw [hr, ei]
        have hcv := cvs_cov hn_ p side
        refine q_aload_n C hl dL_isGust_122 rfl 0 rfl ?_
        refine q_iload_n C hl dL_isGust_123 rfl 1 rfl ?_
        refine q_iconst C dL_isGust_124 ?_
        refine q_runi C w fr_all (q_V (As := [.int (jj p), .int (jj 1)]) (rest := []) C w fr_all fX3_person gL_isGust_X3_person rfl ⟨Nat.le_of_ble_eq_true rfl, Nat.le_of_ble_eq_true rfl⟩ (kX3_person l D cI cC cS h hn adn hsn ads hh har hw adw σ ς hs ha η dp τ kd am sd q u p 1 bY (by omega) (by omega) _) (q0 := 0) rfl rfl rfl rfl hl (Nat.le_of_ble_eq_true rfl) dL_isGust_125 ⟨Nat.le_refl 0, Nat.le_refl 0⟩) (fun H locs w => ?_)
        rw [show (psu σ p 1) = σ (13 + 6 * p + 1) from psu_k (by omega) (by omega) (by omega) (by omega)]
        have join138 : ∀ (z3 : Int), (z3 = if cov σ p side then 0 else d) →  ∀ (H : Heap) (locs : List Loc), Wd D A s (uW cI cC cS h hn adn hsn ads hh har hw adw σ ς hs ha η dp τ kd am sd q u) H locs → ∀ ls : Array Slot, lv_has ls 8 [(0, .ref h), (1, .int (jj p)), (2, .int (jj d)), (3, .int (jj side)), (4, .int (jj v)), (5, .int (jj r)), (6, .int (jj i))] → W pr l en rL_isGust s m args below meth c H locs 0 0 (MQ below (Qi D (tz cI cC cS) (bI True) (uW cI cC cS h hn adn hsn ads hh har hw adw σ ς hs ha η dp τ kd am sd q u) A) args s 0 0 A) (F0 m 138 ls [.int (jj z3), .int (jj (σ (13 + 6 * p + 1)))]) := by
          intro z3 hz3 H locs w ls hl
          refine q_iadd C dL_isGust_138 ?_
          refine q_iload C hl dL_isGust_139 5 rfl ?_
          refine q_iload_n C hl dL_isGust_141 rfl 2 rfl ?_
          refine q_iconst C dL_isGust_142 ?_
          refine q_idiv C dL_isGust_143 ⟨by omega, by omega⟩ ⟨by omega, by omega⟩ ?_
          refine q_imul C dL_isGust_144 ?_
          refine q_iadd C dL_isGust_145 ?_
          rw [show (((σ (13 + 6 * p + 1)) + z3) + (r * (d / 2))) = σ (13 + 6 * p + 1) + wtr σ p d side from (by unfold wtr; rw [hz3, hr2]; exact Int.add_assoc _ _ _)]
          refine q_istore (lv' := [(6, .int (jj (σ (13 + 6 * p + 1) + wtr σ p d side))), (0, .ref h), (1, .int (jj p)), (2, .int (jj d)), (3, .int (jj side)), (4, .int (jj v)), (5, .int (jj r))]) C hl dL_isGust_146 (by decide) rfl (fun ls hl => ?_)
          have join164 : ∀ (z4 : Int), (z4 = wby σ p d side) →  ∀ (H : Heap) (locs : List Loc), Wd D A s (uW cI cC cS h hn adn hsn ads hh har hw adw σ ς hs ha η dp τ kd am sd q u) H locs → ∀ ls : Array Slot, lv_has ls 8 [(0, .ref h), (1, .int (jj p)), (2, .int (jj d)), (3, .int (jj side)), (4, .int (jj v)), (5, .int (jj r)), (6, .int (jj (σ (13 + 6 * p + 1) + wtr σ p d side)))] → W pr l en rL_isGust s m args below meth c H locs 0 0 (MQ below (Qi D (tz cI cC cS) (bI True) (uW cI cC cS h hn adn hsn ads hh har hw adw σ ς hs ha η dp τ kd am sd q u) A) args s 0 0 A) (F0 m 164 ls [.int (jj z4)]) := by
            intro z4 hz4 H locs w ls hl
            refine q_istore (lv' := [(6, .int (jj z4)), (0, .ref h), (1, .int (jj p)), (2, .int (jj d)), (3, .int (jj side)), (4, .int (jj v)), (5, .int (jj r))]) C hl dL_isGust_164 (by decide) rfl (fun ls hl => ?_)
            refine q_aload_n C hl dL_isGust_166 rfl 1 rfl ?_
            refine q_iload_n C hl dL_isGust_167 rfl 2 rfl ?_
            refine q_iload_n C hl dL_isGust_168 rfl 3 rfl ?_
            refine q_iload_n C hl dL_isGust_169 rfl 4 rfl ?_
            refine q_iconst C dL_isGust_170 ?_
            refine q_runi C w fr_all (q_V (As := [.int (jj p), .int (jj d), .int (jj side), .int (jj 0)]) (rest := []) C w fr_all fX3_ifGust gL_isGust_X3_ifGust rfl ⟨Nat.le_of_ble_eq_true rfl, Nat.le_of_ble_eq_true rfl⟩ (kX3_ifGust l D cI cC cS h hn adn hsn ads hh har hw adw σ ς hs ha η dp τ kd am sd q u p d side 0 bY (by omega) (by omega) (by omega) (by omega) _) (q0 := 0) rfl rfl rfl rfl hl (Nat.le_of_ble_eq_true rfl) dL_isGust_171 ⟨Nat.le_refl 0, Nat.le_refl 0⟩) (fun H locs w => ?_)
            rw [show (ifu σ p d side 0) = bI (0 < cvs σ p side (σ 0)) from ((ifu_0 hp.1 hp.2 hg).trans (bI_iff hcv.symm))]
            refine q_iload C hl dL_isGust_174 5 rfl ?_
            refine q_if_le (tgt := 183) C dL_isGust_176 (by decide) ⟨by omega, by omega⟩ (fun c2 => ?_) (fun c2 => ?_)
            · have c2 := c2
              refine q_iconst C dL_isGust_183 ?_
              refine q_icmpN (tgt := 244) C dL_isGust_184 (by decide) (by first | exact bI_t (by omega) | exact bI_f (by omega)) ?_
              refine q_aload_n C hl dL_isGust_187 rfl 1 rfl ?_
              refine q_iload_n C hl dL_isGust_188 rfl 2 rfl ?_
              refine q_iload_n C hl dL_isGust_189 rfl 3 rfl ?_
              refine q_iload_n C hl dL_isGust_190 rfl 4 rfl ?_
              refine q_iconst C dL_isGust_191 ?_
              refine q_runi C w fr_all (q_V (As := [.int (jj p), .int (jj d), .int (jj side), .int (jj 1)]) (rest := []) C w fr_all fX3_ifGust gL_isGust_X3_ifGust rfl ⟨Nat.le_of_ble_eq_true rfl, Nat.le_of_ble_eq_true rfl⟩ (kX3_ifGust l D cI cC cS h hn adn hsn ads hh har hw adw σ ς hs ha η dp τ kd am sd q u p d side 1 bY (by omega) (by omega) (by omega) (by omega) _) (q0 := 0) rfl rfl rfl rfl hl (Nat.le_of_ble_eq_true rfl) dL_isGust_192 ⟨Nat.le_refl 0, Nat.le_refl 0⟩) (fun H locs w => ?_)
              rw [show (ifu σ p d side 1) = rnf σ p (σ 0) from ifu_1 hp.1 hp.2 hg]
              refine q_iload C hl dL_isGust_195 6 rfl ?_
              refine q_icmpN (tgt := 244) C dL_isGust_197 (by decide) hr2.symm ?_
              refine q_aload_n C hl dL_isGust_200 rfl 1 rfl ?_
              refine q_iload_n C hl dL_isGust_201 rfl 2 rfl ?_
              refine q_iload_n C hl dL_isGust_202 rfl 3 rfl ?_
              refine q_iload_n C hl dL_isGust_203 rfl 4 rfl ?_
              refine q_iconst C dL_isGust_204 ?_
              refine q_runi C w fr_all (q_V (As := [.int (jj p), .int (jj d), .int (jj side), .int (jj 2)]) (rest := []) C w fr_all fX3_ifGust gL_isGust_X3_ifGust rfl ⟨Nat.le_of_ble_eq_true rfl, Nat.le_of_ble_eq_true rfl⟩ (kX3_ifGust l D cI cC cS h hn adn hsn ads hh har hw adw σ ς hs ha η dp τ kd am sd q u p d side 2 bY (by omega) (by omega) (by omega) (by omega) _) (q0 := 0) rfl rfl rfl rfl hl (Nat.le_of_ble_eq_true rfl) dL_isGust_205 ⟨Nat.le_refl 0, Nat.le_refl 0⟩) (fun H locs w => ?_)
              rw [show (ifu σ p d side 2) = wby σ p d side from ifu_2 hp.1 hp.2 hg]
              refine q_iload C hl dL_isGust_208 0 rfl ?_
              refine q_icmpN (tgt := 244) C dL_isGust_210 (by decide) hz4.symm ?_
              refine q_aload_n C hl dL_isGust_213 rfl 1 rfl ?_
              refine q_iload_n C hl dL_isGust_214 rfl 2 rfl ?_
              refine q_iload_n C hl dL_isGust_215 rfl 3 rfl ?_
              refine q_iload_n C hl dL_isGust_216 rfl 4 rfl ?_
              refine q_iconst C dL_isGust_217 ?_
              refine q_runi C w fr_all (q_V (As := [.int (jj p), .int (jj d), .int (jj side), .int (jj 3)]) (rest := []) C w fr_all fX3_ifGust gL_isGust_X3_ifGust rfl ⟨Nat.le_of_ble_eq_true rfl, Nat.le_of_ble_eq_true rfl⟩ (kX3_ifGust l D cI cC cS h hn adn hsn ads hh har hw adw σ ς hs ha η dp τ kd am sd q u p d side 3 bY (by omega) (by omega) (by omega) (by omega) _) (q0 := 0) rfl rfl rfl rfl hl (Nat.le_of_ble_eq_true rfl) dL_isGust_218 ⟨Nat.le_refl 0, Nat.le_refl 0⟩) (fun H locs w => ?_)
              rw [show (ifu σ p d side 3) = bI (σ (13 + 6 * p + 2) < wby σ p d side) from ifu_3 hp.1 hp.2 hg]
              refine q_iload C hl dL_isGust_221 0 rfl ?_
              refine q_aload_n C hl dL_isGust_223 rfl 1 rfl ?_
              refine q_iload_n C hl dL_isGust_224 rfl 2 rfl ?_
              refine q_iconst C dL_isGust_225 ?_
              refine q_runi C w fr_all (q_V (As := [.int (jj p), .int (jj 2)]) (rest := [.int (jj z4), .int (jj (bI (σ (13 + 6 * p + 2) < wby σ p d side)))]) C w fr_all fX3_person gL_isGust_X3_person rfl ⟨Nat.le_of_ble_eq_true rfl, Nat.le_of_ble_eq_true rfl⟩ (kX3_person l D cI cC cS h hn adn hsn ads hh har hw adw σ ς hs ha η dp τ kd am sd q u p 2 bY (by omega) (by omega) _) (q0 := 0) rfl rfl rfl rfl hl (Nat.le_of_ble_eq_true rfl) dL_isGust_226 ⟨Nat.le_refl 0, Nat.le_refl 0⟩) (fun H locs w => ?_)
              rw [show (psu σ p 2) = σ (13 + 6 * p + 2) from psu_k (by omega) (by omega) (by omega) (by omega)]
              refine q_icmp_le (tgt := 236) C dL_isGust_229 (by decide) ⟨by omega, by omega⟩ ⟨by omega, by omega⟩ (fun c3 => ?_) (fun c3 => ?_)
              · have c3 := c3
                refine q_iconst C dL_isGust_236 ?_
                refine q_icmpN (tgt := 244) C dL_isGust_237 (by decide) (by first | exact bI_t (by omega) | exact bI_f (by omega)) ?_
                refine q_iconst C dL_isGust_240 ?_
                refine q_goto (tgt := 245) C dL_isGust_241 (by decide) ?_
                exact q_zret C w dL_isGust_245 (bI_t trivial).symm rfl
              · have c3 := c3
                refine q_iconst C dL_isGust_232 ?_
                refine q_goto (tgt := 237) C dL_isGust_233 (by decide) ?_
                refine q_icmpN (tgt := 244) C dL_isGust_237 (by decide) (by first | exact bI_t (by omega) | exact bI_f (by omega)) ?_
                refine q_iconst C dL_isGust_240 ?_
                refine q_goto (tgt := 245) C dL_isGust_241 (by decide) ?_
                exact q_zret C w dL_isGust_245 (bI_t trivial).symm rfl
            · have c2 := c2
              refine q_iconst C dL_isGust_179 ?_
              refine q_goto (tgt := 184) C dL_isGust_180 (by decide) ?_
              refine q_icmpN (tgt := 244) C dL_isGust_184 (by decide) (by first | exact bI_t (by omega) | exact bI_f (by omega)) ?_
              refine q_aload_n C hl dL_isGust_187 rfl 1 rfl ?_
              refine q_iload_n C hl dL_isGust_188 rfl 2 rfl ?_
              refine q_iload_n C hl dL_isGust_189 rfl 3 rfl ?_
              refine q_iload_n C hl dL_isGust_190 rfl 4 rfl ?_
              refine q_iconst C dL_isGust_191 ?_
              refine q_runi C w fr_all (q_V (As := [.int (jj p), .int (jj d), .int (jj side), .int (jj 1)]) (rest := []) C w fr_all fX3_ifGust gL_isGust_X3_ifGust rfl ⟨Nat.le_of_ble_eq_true rfl, Nat.le_of_ble_eq_true rfl⟩ (kX3_ifGust l D cI cC cS h hn adn hsn ads hh har hw adw σ ς hs ha η dp τ kd am sd q u p d side 1 bY (by omega) (by omega) (by omega) (by omega) _) (q0 := 0) rfl rfl rfl rfl hl (Nat.le_of_ble_eq_true rfl) dL_isGust_192 ⟨Nat.le_refl 0, Nat.le_refl 0⟩) (fun H locs w => ?_)
              rw [show (ifu σ p d side 1) = rnf σ p (σ 0) from ifu_1 hp.1 hp.2 hg]
              refine q_iload C hl dL_isGust_195 6 rfl ?_
              refine q_icmpN (tgt := 244) C dL_isGust_197 (by decide) hr2.symm ?_
              refine q_aload_n C hl dL_isGust_200 rfl 1 rfl ?_
              refine q_iload_n C hl dL_isGust_201 rfl 2 rfl ?_
              refine q_iload_n C hl dL_isGust_202 rfl 3 rfl ?_
              refine q_iload_n C hl dL_isGust_203 rfl 4 rfl ?_
              refine q_iconst C dL_isGust_204 ?_
              refine q_runi C w fr_all (q_V (As := [.int (jj p), .int (jj d), .int (jj side), .int (jj 2)]) (rest := []) C w fr_all fX3_ifGust gL_isGust_X3_ifGust rfl ⟨Nat.le_of_ble_eq_true rfl, Nat.le_of_ble_eq_true rfl⟩ (kX3_ifGust l D cI cC cS h hn adn hsn ads hh har hw adw σ ς hs ha η dp τ kd am sd q u p d side 2 bY (by omega) (by omega) (by omega) (by omega) _) (q0 := 0) rfl rfl rfl rfl hl (Nat.le_of_ble_eq_true rfl) dL_isGust_205 ⟨Nat.le_refl 0, Nat.le_refl 0⟩) (fun H locs w => ?_)
              rw [show (ifu σ p d side 2) = wby σ p d side from ifu_2 hp.1 hp.2 hg]
              refine q_iload C hl dL_isGust_208 0 rfl ?_
              refine q_icmpN (tgt := 244) C dL_isGust_210 (by decide) hz4.symm ?_
              refine q_aload_n C hl dL_isGust_213 rfl 1 rfl ?_
              refine q_iload_n C hl dL_isGust_214 rfl 2 rfl ?_
              refine q_iload_n C hl dL_isGust_215 rfl 3 rfl ?_
              refine q_iload_n C hl dL_isGust_216 rfl 4 rfl ?_
              refine q_iconst C dL_isGust_217 ?_
              refine q_runi C w fr_all (q_V (As := [.int (jj p), .int (jj d), .int (jj side), .int (jj 3)]) (rest := []) C w fr_all fX3_ifGust gL_isGust_X3_ifGust rfl ⟨Nat.le_of_ble_eq_true rfl, Nat.le_of_ble_eq_true rfl⟩ (kX3_ifGust l D cI cC cS h hn adn hsn ads hh har hw adw σ ς hs ha η dp τ kd am sd q u p d side 3 bY (by omega) (by omega) (by omega) (by omega) _) (q0 := 0) rfl rfl rfl rfl hl (Nat.le_of_ble_eq_true rfl) dL_isGust_218 ⟨Nat.le_refl 0, Nat.le_refl 0⟩) (fun H locs w => ?_)
              rw [show (ifu σ p d side 3) = bI (σ (13 + 6 * p + 2) < wby σ p d side) from ifu_3 hp.1 hp.2 hg]
              refine q_iload C hl dL_isGust_221 0 rfl ?_
              refine q_aload_n C hl dL_isGust_223 rfl 1 rfl ?_
              refine q_iload_n C hl dL_isGust_224 rfl 2 rfl ?_
              refine q_iconst C dL_isGust_225 ?_
              refine q_runi C w fr_all (q_V (As := [.int (jj p), .int (jj 2)]) (rest := [.int (jj z4), .int (jj (bI (σ (13 + 6 * p + 2) < wby σ p d side)))]) C w fr_all fX3_person gL_isGust_X3_person rfl ⟨Nat.le_of_ble_eq_true rfl, Nat.le_of_ble_eq_true rfl⟩ (kX3_person l D cI cC cS h hn adn hsn ads hh har hw adw σ ς hs ha η dp τ kd am sd q u p 2 bY (by omega) (by omega) _) (q0 := 0) rfl rfl rfl rfl hl (Nat.le_of_ble_eq_true rfl) dL_isGust_226 ⟨Nat.le_refl 0, Nat.le_refl 0⟩) (fun H locs w => ?_)
              rw [show (psu σ p 2) = σ (13 + 6 * p + 2) from psu_k (by omega) (by omega) (by omega) (by omega)]
              refine q_icmp_le (tgt := 236) C dL_isGust_229 (by decide) ⟨by omega, by omega⟩ ⟨by omega, by omega⟩ (fun c4 => ?_) (fun c4 => ?_)
              · have c4 := c4
                refine q_iconst C dL_isGust_236 ?_
                refine q_icmpN (tgt := 244) C dL_isGust_237 (by decide) (by first | exact bI_t (by omega) | exact bI_f (by omega)) ?_
                refine q_iconst C dL_isGust_240 ?_
                refine q_goto (tgt := 245) C dL_isGust_241 (by decide) ?_
                exact q_zret C w dL_isGust_245 (bI_t trivial).symm rfl
              · have c4 := c4
                refine q_iconst C dL_isGust_232 ?_
                refine q_goto (tgt := 237) C dL_isGust_233 (by decide) ?_
                refine q_icmpN (tgt := 244) C dL_isGust_237 (by decide) (by first | exact bI_t (by omega) | exact bI_f (by omega)) ?_
                refine q_iconst C dL_isGust_240 ?_
                refine q_goto (tgt := 245) C dL_isGust_241 (by decide) ?_
                exact q_zret C w dL_isGust_245 (bI_t trivial).symm rfl
          refine q_iload C hl dL_isGust_148 0 rfl ?_
          refine q_sipush C dL_isGust_150 (by decide) ?_
          refine q_icmp_le (tgt := 162) C dL_isGust_153 (by decide) ⟨by omega, by omega⟩ ⟨by omega, by omega⟩ (fun c5 => ?_) (fun c5 => ?_)
          · have c5 := c5
            refine q_iload C hl dL_isGust_162 0 rfl ?_
            exact join164 (σ (13 + 6 * p + 1) + wtr σ p d side) (by unfold wby; omega) _ _ w ls (lv_sub hl [1, 2, 3, 4, 5, 6, 0] rfl)
          · have c5 := c5
            refine q_sipush C dL_isGust_156 (by decide) ?_
            refine q_goto (tgt := 164) C dL_isGust_159 (by decide) ?_
            exact join164 999 (by unfold wby; omega) _ _ w ls (lv_sub hl [1, 2, 3, 4, 5, 6, 0] rfl)
        refine q_iload C hl dL_isGust_128 4 rfl ?_
        refine q_if_le (tgt := 137) C dL_isGust_130 (by decide) ⟨by omega, by omega⟩ (fun c6 => ?_) (fun c6 => ?_)
        · have c6 := c6
          refine q_iload_n C hl dL_isGust_137 rfl 2 rfl ?_
          exact join138 d (by first | exact (if_pos (hcv.mp (by omega))).symm | exact (if_neg (fun zz => by have := hcv.mpr zz; omega)).symm) _ _ w ls (lv_sub hl [0, 1, 2, 3, 4, 5, 6] rfl)
        · have c6 := c6
          refine q_iconst C dL_isGust_133 ?_
          refine q_goto (tgt := 138) C dL_isGust_134 (by decide) ?_
          exact join138 0 (by first | exact (if_pos (hcv.mp (by omega))).symm | exact (if_neg (fun zz => by have := hcv.mpr zz; omega)).symm) _ _ w ls (lv_sub hl [0, 1, 2, 3, 4, 5, 6] rfl)
      · have c1 := c1
        refine q_aload_n C hl dL_isGust_19 rfl 0 rfl ?_
        refine q_iload C hl dL_isGust_20 6 rfl ?_
        refine q_iload_n C hl dL_isGust_22 rfl 1 rfl ?_
        refine q_runi C w fr_all (q_S (As := [.ref h, .int (jj i), .int (jj p)]) (rest := []) C w fr_all fL_reaches gL_isGust_L_reaches ⟨Nat.le_of_ble_eq_true rfl, Nat.le_of_ble_eq_true rfl⟩ (kL_reaches l D cI cC cS h hn adn hsn ads hh har hw adw σ ς hs ha η dp τ kd am sd q u i p bY ⟨by omega, by omega⟩ ⟨by omega, by omega⟩ _) rfl rfl hl (Nat.le_of_ble_eq_true rfl) dL_isGust_23 ⟨Nat.le_refl 0, Nat.le_refl 0⟩) (fun H locs w => ?_)
        refine q_istore (lv' := [(7, .int (jj (bI (hit σ i p)))), (0, .ref h), (1, .int (jj p)), (2, .int (jj d)), (3, .int (jj side)), (4, .int (jj v)), (5, .int (jj r)), (6, .int (jj i))]) C hl dL_isGust_26 (by decide) rfl (fun ls hl => ?_)
        refine q_iload C hl dL_isGust_28 5 rfl ?_
        have join74 : ∀ (z : Int), (z = bI (cvp σ p side i)) →  ∀ (H : Heap) (locs : List Loc), Wd D A s (uW cI cC cS h hn adn hsn ads hh har hw adw σ ς hs ha η dp τ kd am sd q u) H locs → ∀ ls : Array Slot, lv_has ls 8 [(0, .ref h), (1, .int (jj p)), (2, .int (jj d)), (3, .int (jj side)), (4, .int (jj v)), (5, .int (jj r)), (6, .int (jj i)), (7, .int (jj (bI (hit σ i p))))] → W pr l en rL_isGust s m args below meth c H locs 0 0 (MQ below (Qi D (tz cI cC cS) (bI True) (uW cI cC cS h hn adn hsn ads hh har hw adw σ ς hs ha η dp τ kd am sd q u) A) args s 0 0 A) (F0 m 74 ls [.int (jj z), .int (jj v)]) := by
          intro z hz H locs w ls hl
          refine q_iadd C dL_isGust_74 ?_
          refine q_istore (lv' := [(4, .int (jj (v + z))), (0, .ref h), (1, .int (jj p)), (2, .int (jj d)), (3, .int (jj side)), (5, .int (jj r)), (6, .int (jj i)), (7, .int (jj (bI (hit σ i p))))]) C hl dL_isGust_75 (by decide) rfl (fun ls hl => ?_)
          refine q_iload C hl dL_isGust_77 5 rfl ?_
          have join113 : ∀ (z2 : Int), (z2 = bI (rno σ i p)) →  ∀ (H : Heap) (locs : List Loc), Wd D A s (uW cI cC cS h hn adn hsn ads hh har hw adw σ ς hs ha η dp τ kd am sd q u) H locs → ∀ ls : Array Slot, lv_has ls 8 [(0, .ref h), (1, .int (jj p)), (2, .int (jj d)), (3, .int (jj side)), (4, .int (jj (v + z))), (5, .int (jj r)), (6, .int (jj i)), (7, .int (jj (bI (hit σ i p))))] → W pr l en rL_isGust s m args below meth c H locs 0 0 (MQ below (Qi D (tz cI cC cS) (bI True) (uW cI cC cS h hn adn hsn ads hh har hw adw σ ς hs ha η dp τ kd am sd q u) A) args s 0 0 A) (F0 m 113 ls [.int (jj z2), .int (jj r)]) := by
            intro z2 hz2 H locs w ls hl
            refine q_iadd C dL_isGust_113 ?_
            refine q_istore (lv' := [(5, .int (jj (r + z2))), (0, .ref h), (1, .int (jj p)), (2, .int (jj d)), (3, .int (jj side)), (4, .int (jj (v + z))), (6, .int (jj i)), (7, .int (jj (bI (hit σ i p))))]) C hl dL_isGust_114 (by decide) rfl (fun ls hl => ?_)
            refine q_iinc (lv' := [(6, .int (jj (i + 1))), (5, .int (jj (r + z2))), (0, .ref h), (1, .int (jj p)), (2, .int (jj d)), (3, .int (jj side)), (4, .int (jj (v + z))), (7, .int (jj (bI (hit σ i p))))]) C hl dL_isGust_116 6 rfl (by decide) rfl (fun ls hl => ?_)
            refine q_goto (tgt := 9) C dL_isGust_119 (by decide) ?_
            exact ih9 (i + 1) (v + z) (r + z2) (by omega) (by omega) (by rw [cvs_s σ p side hi0]; omega) (by rw [rnf_s σ p hi0]; omega) (by omega) _ _ w ls (lv_sub hl [2, 3, 4, 5, 6, 1, 0] rfl)
          refine q_iload C hl dL_isGust_79 7 rfl ?_
          refine q_ifz_ne (tgt := 112) C dL_isGust_81 (by decide) (fun c7 => ?_) (fun c7 => ?_)
          · have c7 := c7
            refine q_iconst C dL_isGust_112 ?_
            exact join113 0 (by first | exact (bI_t ((rno_iff bY hi0 (by omega)).mp (by omega))).symm | exact (bI_f (fun zz => by have := (rno_iff bY hi0 (by omega)).mpr zz; omega)).symm) _ _ w ls (lv_sub hl [1, 2, 3, 4, 0, 5, 6, 7] rfl)
          · have c7 := c7
            refine q_aload_n C hl dL_isGust_84 rfl 1 rfl ?_
            refine q_iload C hl dL_isGust_85 6 rfl ?_
            refine q_iload_n C hl dL_isGust_87 rfl 2 rfl ?_
            refine q_iconst C dL_isGust_88 ?_
            refine q_isub C dL_isGust_89 ?_
            refine q_runi C w fr_all (q_S (As := [.ref h, .int (jj i), .int (jj (p - 1))]) (rest := [.int (jj r)]) C w fr_all fL_reaches gL_isGust_L_reaches ⟨Nat.le_of_ble_eq_true rfl, Nat.le_of_ble_eq_true rfl⟩ (kL_reaches l D cI cC cS h hn adn hsn ads hh har hw adw σ ς hs ha η dp τ kd am sd q u i (p - 1) bY ⟨by omega, by omega⟩ ⟨by omega, by omega⟩ _) rfl rfl hl (Nat.le_of_ble_eq_true rfl) dL_isGust_90 ⟨Nat.le_refl 0, Nat.le_refl 0⟩) (fun H locs w => ?_)
            refine q_ifz_ne (tgt := 108) C dL_isGust_93 (by decide) (fun c8 => ?_) (fun c8 => ?_)
            · have c8 := c8
              refine q_iconst C dL_isGust_108 ?_
              refine q_goto (tgt := 113) C dL_isGust_109 (by decide) ?_
              exact join113 1 (by first | exact (bI_t ((rno_iff bY hi0 (by omega)).mp (by omega))).symm | exact (bI_f (fun zz => by have := (rno_iff bY hi0 (by omega)).mpr zz; omega)).symm) _ _ w ls (lv_sub hl [1, 2, 3, 4, 0, 5, 6, 7] rfl)
            · have c8 := c8
              refine q_aload_n C hl dL_isGust_96 rfl 1 rfl ?_
              refine q_iload C hl dL_isGust_97 6 rfl ?_
              refine q_iload_n C hl dL_isGust_99 rfl 2 rfl ?_
              refine q_iconst C dL_isGust_100 ?_
              refine q_iadd C dL_isGust_101 ?_
              refine q_runi C w fr_all (q_S (As := [.ref h, .int (jj i), .int (jj (p + 1))]) (rest := [.int (jj r)]) C w fr_all fL_reaches gL_isGust_L_reaches ⟨Nat.le_of_ble_eq_true rfl, Nat.le_of_ble_eq_true rfl⟩ (kL_reaches l D cI cC cS h hn adn hsn ads hh har hw adw σ ς hs ha η dp τ kd am sd q u i (p + 1) bY ⟨by omega, by omega⟩ ⟨by omega, by omega⟩ _) rfl rfl hl (Nat.le_of_ble_eq_true rfl) dL_isGust_102 ⟨Nat.le_refl 0, Nat.le_refl 0⟩) (fun H locs w => ?_)
              refine q_ifz_eq (tgt := 112) C dL_isGust_105 (by decide) (fun c9 => ?_) (fun c9 => ?_)
              · have c9 := c9
                refine q_iconst C dL_isGust_112 ?_
                exact join113 0 (by first | exact (bI_t ((rno_iff bY hi0 (by omega)).mp (by omega))).symm | exact (bI_f (fun zz => by have := (rno_iff bY hi0 (by omega)).mpr zz; omega)).symm) _ _ w ls (lv_sub hl [1, 2, 3, 4, 0, 5, 6, 7] rfl)
              · have c9 := c9
                refine q_iconst C dL_isGust_108 ?_
                refine q_goto (tgt := 113) C dL_isGust_109 (by decide) ?_
                exact join113 1 (by first | exact (bI_t ((rno_iff bY hi0 (by omega)).mp (by omega))).symm | exact (bI_f (fun zz => by have := (rno_iff bY hi0 (by omega)).mpr zz; omega)).symm) _ _ w ls (lv_sub hl [1, 2, 3, 4, 0, 5, 6, 7] rfl)
        refine q_iload C hl dL_isGust_30 0 rfl ?_
        refine q_ifz_ne (tgt := 69) C dL_isGust_32 (by decide) (fun c10 => ?_) (fun c10 => ?_)
        · have c10 := c10
          refine q_iconst C dL_isGust_69 ?_
          refine q_goto (tgt := 74) C dL_isGust_70 (by decide) ?_
          exact join74 1 (by first | exact (bI_t (by omega)).symm | exact (bI_f (by omega)).symm) _ _ w ls (lv_sub hl [1, 2, 3, 4, 5, 6, 7, 0] rfl)
        · have c10 := c10
          refine q_iload_n C hl dL_isGust_35 rfl 4 rfl ?_
          refine q_iconst C dL_isGust_36 ?_
          refine q_icmp_ne (tgt := 52) C dL_isGust_37 (by decide) ⟨by omega, by omega⟩ ⟨by omega, by omega⟩ (fun c11 => ?_) (fun c11 => ?_)
          · have c11 := c11
            refine q_iload_n C hl dL_isGust_52 rfl 4 rfl ?_
            refine q_iconst C dL_isGust_53 ?_
            refine q_icmp_ne (tgt := 73) C dL_isGust_54 (by decide) ⟨by omega, by omega⟩ ⟨by omega, by omega⟩ (fun c12 => ?_) (fun c12 => ?_)
            · have c12 := c12
              refine q_iconst C dL_isGust_73 ?_
              exact join74 0 (by first | exact (bI_t (by omega)).symm | exact (bI_f (by omega)).symm) _ _ w ls (lv_sub hl [1, 2, 3, 4, 5, 6, 7, 0] rfl)
            · have c12 := c12
              refine q_aload_n C hl dL_isGust_57 rfl 1 rfl ?_
              refine q_iload C hl dL_isGust_58 7 rfl ?_
              refine q_iload_n C hl dL_isGust_60 rfl 2 rfl ?_
              refine q_iconst C dL_isGust_61 ?_
              refine q_iadd C dL_isGust_62 ?_
              refine q_runi C w fr_all (q_S (As := [.ref h, .int (jj i), .int (jj (p + 1))]) (rest := [.int (jj v)]) C w fr_all fL_reaches gL_isGust_L_reaches ⟨Nat.le_of_ble_eq_true rfl, Nat.le_of_ble_eq_true rfl⟩ (kL_reaches l D cI cC cS h hn adn hsn ads hh har hw adw σ ς hs ha η dp τ kd am sd q u i (p + 1) bY ⟨by omega, by omega⟩ ⟨by omega, by omega⟩ _) rfl rfl hl (Nat.le_of_ble_eq_true rfl) dL_isGust_63 ⟨Nat.le_refl 0, Nat.le_refl 0⟩) (fun H locs w => ?_)
              refine q_ifz_eq (tgt := 73) C dL_isGust_66 (by decide) (fun c13 => ?_) (fun c13 => ?_)
              · have c13 := c13
                refine q_iconst C dL_isGust_73 ?_
                exact join74 0 (by first | exact (bI_t (by omega)).symm | exact (bI_f (by omega)).symm) _ _ w ls (lv_sub hl [1, 2, 3, 4, 5, 6, 7, 0] rfl)
              · have c13 := c13
                refine q_iconst C dL_isGust_69 ?_
                refine q_goto (tgt := 74) C dL_isGust_70 (by decide) ?_
                exact join74 1 (by first | exact (bI_t (by omega)).symm | exact (bI_f (by omega)).symm) _ _ w ls (lv_sub hl [1, 2, 3, 4, 5, 6, 7, 0] rfl)
          · have c11 := c11
            refine q_aload_n C hl dL_isGust_40 rfl 1 rfl ?_
            refine q_iload C hl dL_isGust_41 7 rfl ?_
            refine q_iload_n C hl dL_isGust_43 rfl 2 rfl ?_
            refine q_iconst C dL_isGust_44 ?_
            refine q_isub C dL_isGust_45 ?_
            refine q_runi C w fr_all (q_S (As := [.ref h, .int (jj i), .int (jj (p - 1))]) (rest := [.int (jj v)]) C w fr_all fL_reaches gL_isGust_L_reaches ⟨Nat.le_of_ble_eq_true rfl, Nat.le_of_ble_eq_true rfl⟩ (kL_reaches l D cI cC cS h hn adn hsn ads hh har hw adw σ ς hs ha η dp τ kd am sd q u i (p - 1) bY ⟨by omega, by omega⟩ ⟨by omega, by omega⟩ _) rfl rfl hl (Nat.le_of_ble_eq_true rfl) dL_isGust_46 ⟨Nat.le_refl 0, Nat.le_refl 0⟩) (fun H locs w => ?_)
            refine q_ifz_ne (tgt := 69) C dL_isGust_49 (by decide) (fun c14 => ?_) (fun c14 => ?_)
            · have c14 := c14
              refine q_iconst C dL_isGust_69 ?_
              refine q_goto (tgt := 74) C dL_isGust_70 (by decide) ?_
              exact join74 1 (by first | exact (bI_t (by omega)).symm | exact (bI_f (by omega)).symm) _ _ w ls (lv_sub hl [1, 2, 3, 4, 5, 6, 7, 0] rfl)
            · have c14 := c14
              refine q_iload_n C hl dL_isGust_52 rfl 4 rfl ?_
              refine q_iconst C dL_isGust_53 ?_
              refine q_icmp_ne (tgt := 73) C dL_isGust_54 (by decide) ⟨by omega, by omega⟩ ⟨by omega, by omega⟩ (fun c15 => ?_) (fun c15 => ?_)
              · have c15 := c15
                refine q_iconst C dL_isGust_73 ?_
                exact join74 0 (by first | exact (bI_t (by omega)).symm | exact (bI_f (by omega)).symm) _ _ w ls (lv_sub hl [1, 2, 3, 4, 5, 6, 7, 0] rfl)
              · have c15 := c15
                refine q_aload_n C hl dL_isGust_57 rfl 1 rfl ?_
                refine q_iload C hl dL_isGust_58 7 rfl ?_
                refine q_iload_n C hl dL_isGust_60 rfl 2 rfl ?_
                refine q_iconst C dL_isGust_61 ?_
                refine q_iadd C dL_isGust_62 ?_
                refine q_runi C w fr_all (q_S (As := [.ref h, .int (jj i), .int (jj (p + 1))]) (rest := [.int (jj v)]) C w fr_all fL_reaches gL_isGust_L_reaches ⟨Nat.le_of_ble_eq_true rfl, Nat.le_of_ble_eq_true rfl⟩ (kL_reaches l D cI cC cS h hn adn hsn ads hh har hw adw σ ς hs ha η dp τ kd am sd q u i (p + 1) bY ⟨by omega, by omega⟩ ⟨by omega, by omega⟩ _) rfl rfl hl (Nat.le_of_ble_eq_true rfl) dL_isGust_63 ⟨Nat.le_refl 0, Nat.le_refl 0⟩) (fun H locs w => ?_)
                refine q_ifz_eq (tgt := 73) C dL_isGust_66 (by decide) (fun c16 => ?_) (fun c16 => ?_)
                · have c16 := c16
                  refine q_iconst C dL_isGust_73 ?_
                  exact join74 0 (by first | exact (bI_t (by omega)).symm | exact (bI_f (by omega)).symm) _ _ w ls (lv_sub hl [1, 2, 3, 4, 5, 6, 7, 0] rfl)
                · have c16 := c16
                  refine q_iconst C dL_isGust_69 ?_
                  refine q_goto (tgt := 74) C dL_isGust_70 (by decide) ?_
                  exact join74 1 (by first | exact (bI_t (by omega)).symm | exact (bI_f (by omega)).symm) _ _ w ls (lv_sub hl [1, 2, 3, 4, 5, 6, 7, 0] rfl)
  exact loop9 _ 0 0 0 (by omega) (by omega) rfl rfl (Nat.lt_succ_self _) _ _ w ls (lv_sub hl [3, 4, 5, 6, 2, 1, 0] rfl)

def rL_all : Room := { frames := 6, cells := 0, slots := 0, locals := 138 }
theorem fL_all : Fc yL_all wsL_all rL_all cL_all 5 (some .int) 3 := ⟨⟨_, rfl⟩, rfl, rfl, by decide +kernel, by decide +kernel, by decide +kernel⟩
set_option maxHeartbeats 4000000 in
set_option maxRecDepth 10000 in
theorem kL_all (l : Launch) (D : va_G) (cI cC cS : ClassId) (h hn : Nat) (adn : Nat → Nat) (hsn : Nat) (ads : Nat → Nat) (hh har hw : Nat) (adw : Nat → Nat) (σ ς : Int → Int) (hs : Nat → Nat) (ha : Nat → Nat → Nat) (η : Nat → Int → Int) (dp : Int) (τ kd am sd q u : Int → Int) (d side : Int) (bY : Iv σ) (hg : gst d side) : Ki l yL_all wsL_all rL_all D (tz cI cC cS) [.ref h, .int (jj d), .int (jj side)] (uW cI cC cS h hn adn hsn ads hh har hw adw σ ς hs ha η dp τ kd am sd q u) (awb σ d side) (uW cI cC cS h hn adn hsn ads hh har hw adw σ ς hs ha η dp τ kd am sd q u) := by
  have hW := bY.1
  have hn2 := hW.2.1
  have hn_ := hW.1
  have hgd := hg.1
  have hgs := hg.2
  refine q_entry (cc := cL_all) (nL := 5) (ret := (some .int)) (by decide) ⟨_, rfl⟩ (Nat.le_of_ble_eq_true rfl) ?_
  intro A pr en s m args below meth c C hin w ls hl
  have w := w
  have hl : lv_has ls 5 [(0, .ref h), (1, .int (jj d)), (2, .int (jj side))] := hl
  refine q_iconst C dL_all_0 ?_
  refine q_istore_n (lv' := [(3, .int (jj 0)), (0, .ref h), (1, .int (jj d)), (2, .int (jj side))]) C hl dL_all_1 rfl (by decide) rfl (fun ls hl => ?_)
  refine q_iconst C dL_all_2 ?_
  refine q_istore (lv' := [(4, .int (jj 0)), (3, .int (jj 0)), (0, .ref h), (1, .int (jj d)), (2, .int (jj side))]) C hl dL_all_3 (by decide) rfl (fun ls hl => ?_)
  have loop5 : ∀ (n5 : Nat) (i : Int) (a : Int), (0 ≤ i) → (i ≤ σ 0) → (a = awf σ d side i) → (σ 0 - i).toNat < n5 → ∀ (H : Heap) (locs : List Loc), Wd D A s (uW cI cC cS h hn adn hsn ads hh har hw adw σ ς hs ha η dp τ kd am sd q u) H locs → ∀ ls : Array Slot, lv_has ls 5 [(0, .ref h), (1, .int (jj d)), (2, .int (jj side)), (3, .int (jj a)), (4, .int (jj i))] → W pr l en rL_all s m args below meth c H locs 0 0 (MQ below (Qi D (tz cI cC cS) (awb σ d side) (uW cI cC cS h hn adn hsn ads hh har hw adw σ ς hs ha η dp τ kd am sd q u) A) args s 0 0 A) (F0 m 5 ls []) := by
    intro n5
    induction n5 with
    | zero => intro i a hi0 hi1 ha_ hm; exact absurd hm (Nat.not_lt_zero _)
    | succ n5 ih5 =>
      intro i a hi0 hi1 ha_ hm5 H locs w ls hl
      refine q_iload C hl dL_all_5 4 rfl ?_
      refine q_aload_n C hl dL_all_7 rfl 0 rfl ?_
      refine q_iconst C dL_all_8 ?_
      refine q_runi C w fr_all (q_V (As := [.int (jj 0)]) (rest := [.int (jj i)]) C w fr_all fX3_count gL_all_X3_count rfl ⟨Nat.le_of_ble_eq_true rfl, Nat.le_of_ble_eq_true rfl⟩ (kX3_count l D cI cC cS h hn adn hsn ads hh har hw adw σ ς hs ha η dp τ kd am sd q u 0 bY (by omega) _) (q0 := 0) rfl rfl rfl rfl hl (Nat.le_of_ble_eq_true rfl) dL_all_9 ⟨Nat.le_refl 0, Nat.le_refl 0⟩) (fun H locs w => ?_)
      rw [show (cnu σ dp (q 1) 0) = σ 0 from cnu_k (by omega) (by omega)]
      refine q_icmp_ge (tgt := 33) C dL_all_12 (by decide) ⟨by omega, by omega⟩ ⟨by omega, by omega⟩ (fun c1 => ?_) (fun c1 => ?_)
      · have c1 := c1
        refine q_iload_n C hl dL_all_33 rfl 3 rfl ?_
        exact q_iret C w dL_all_34 (by unfold awb; rw [ha_, show i = σ 0 by omega]) rfl
      · have c1 := c1
        refine q_iload_n C hl dL_all_15 rfl 3 rfl ?_
        refine q_aload_n C hl dL_all_16 rfl 0 rfl ?_
        refine q_iload C hl dL_all_17 4 rfl ?_
        refine q_iload_n C hl dL_all_19 rfl 1 rfl ?_
        refine q_iload_n C hl dL_all_20 rfl 2 rfl ?_
        refine q_iconst C dL_all_21 ?_
        refine q_runi C w fr_all (q_V (As := [.int (jj i), .int (jj d), .int (jj side), .int (jj 2)]) (rest := [.int (jj a)]) C w fr_all fX3_ifGust gL_all_X3_ifGust rfl ⟨Nat.le_of_ble_eq_true rfl, Nat.le_of_ble_eq_true rfl⟩ (kX3_ifGust l D cI cC cS h hn adn hsn ads hh har hw adw σ ς hs ha η dp τ kd am sd q u i d side 2 bY (by omega) (by omega) (by omega) (by omega) _) (q0 := 0) rfl rfl rfl rfl hl (Nat.le_of_ble_eq_true rfl) dL_all_22 ⟨Nat.le_refl 0, Nat.le_refl 0⟩) (fun H locs w => ?_)
        rw [show (ifu σ i d side 2) = wby σ i d side from ifu_2 hi0 (by omega) hg]
        refine q_iadd C dL_all_25 ?_
        refine q_istore_n (lv' := [(3, .int (jj (a + (wby σ i d side)))), (0, .ref h), (1, .int (jj d)), (2, .int (jj side)), (4, .int (jj i))]) C hl dL_all_26 rfl (by decide) rfl (fun ls hl => ?_)
        refine q_iinc (lv' := [(4, .int (jj (i + 1))), (3, .int (jj (a + (wby σ i d side)))), (0, .ref h), (1, .int (jj d)), (2, .int (jj side))]) C hl dL_all_27 4 rfl (by decide) rfl (fun ls hl => ?_)
        refine q_goto (tgt := 5) C dL_all_30 (by decide) ?_
        exact ih5 (i + 1) (a + (wby σ i d side)) (by omega) (by omega) (by rw [awf_s σ d side hi0, ha_]) (by omega) _ _ w ls (lv_sub hl [2, 3, 4, 1, 0] rfl)
  exact loop5 _ 0 0 (by omega) (by omega) rfl (Nat.lt_succ_self _) _ _ w ls (lv_sub hl [2, 3, 4, 1, 0] rfl)
