/-! The acts that move many numbers. -/
theorem ag_gw {σ τ : Int → Int} (h : Ag σ τ) (d s : Int) : Ag (gw σ d s (σ 0)) (gw τ d s (τ 0)) := by
  have e0 : gw τ d s (τ 0) 0 = τ 0 := gw_n τ d s _ (by omega)
  refine ⟨by rw [e0]; exact h.1, fun k k0 k1 => ?_⟩
  rw [e0] at k1
  unfold gw
  rw [h.n]
  by_cases c : 14 ≤ k ∧ k < 13 + 6 * τ 0 ∧ (k - 14) % 6 = 0
  · rw [if_pos c, if_pos c]; exact ag_wby h (by omega) (by omega) d s
  · rw [if_neg c, if_neg c]; exact h.2 k k0 k1
/-- equal but for the gusts' count, which is one on -/
def Ag8 (σ τ : Int → Int) : Prop := (0 ≤ τ 0 ∧ τ 0 ≤ 16) ∧ σ 8 = τ 8 + 1 ∧ ∀ k : Int, 0 ≤ k → k < 13 + 6 * τ 0 → k ≠ 8 → σ k = τ k
theorem ag8_rm {r1 r2 : (Int → Int) → Int → Int → Int} (h1 : rmo r1) (h2 : rmo r2) {σ τ : Int → Int} (h : Ag8 σ τ) {p : Int} (p0 : 0 ≤ p) (p1 : p < τ 0) : Ag8 (r1 σ p) (r2 τ p) := by
  have hb := h.1
  have hn : σ 0 = τ 0 := h.2.2 0 (by omega) (by omega) (by omega)
  obtain ⟨a1, a2, a3⟩ := h1 σ p p0 (by omega) (by omega)
  obtain ⟨b1, b2, b3⟩ := h2 τ p p0 p1 hb.2
  refine ⟨by rw [b1]; omega, by rw [a2 8 (by omega) (by omega), b2 8 (by omega) (by omega)]; exact h.2.1, fun k k0 k1 k8 => ?_⟩
  rw [b1] at k1
  by_cases c0 : k = 0
  · rw [c0, a1, b1, hn]
  · by_cases c : k < 13 + 6 * p
    · rw [a2 k (by omega) c, b2 k (by omega) c]; exact h.2.2 k k0 (by omega) k8
    · rw [a3 k (by omega) (by omega), b3 k (by omega) (by omega)]; exact h.2.2 _ (by omega) (by omega) (by omega)
theorem ag8_rms {σ τ : Int → Int} {n : Int} (h : Ag8 σ τ) (hn : τ 0 = n) : ∀ j : Int, 0 ≤ j → j ≤ n → Ag8 (rms rmv n σ j) (rms goes n τ j) := by
  intro j j0 j1
  have hb := h.1
  have key := it_ind (rmf rmv n) σ (fun i x => Ag8 x (rms goes n τ i)) n h (fun i x i0 i1 hx => by
    show Ag8 (rmf rmv n i x) (rms goes n τ (i + 1))
    rw [rms_s goes n τ i0]
    have hr := rms_i (rmo_ok goes_o) hn (by omega) i i0 (by omega)
    unfold rmf
    rw [hx.2.2 (13 + 6 * (n - 1 - i) + 2) (by omega) (by omega) (by omega), hx.2.2 (13 + 6 * (n - 1 - i) + 1) (by omega) (by omega) (by omega)]
    split
    · exact ag8_rm rmv_o goes_o hx (by omega) (by omega)
    · exact hx) j j0 j1
  exact key
theorem ag_g8 {σ τ : Int → Int} (h : Ag σ τ) (d s : Int) : Ag8 (soA (g8 σ d s)) (gR τ d s) := by
  have hg := ag_gw h d s
  have e0 : gw τ d s (τ 0) 0 = τ 0 := gw_n τ d s _ (by omega)
  have h8 : Ag8 (g8 σ d s) (gw τ d s (τ 0)) := by
    refine ⟨hg.1, ?_, fun k k0 k1 k8 => ?_⟩
    · unfold g8; rw [up_s, hg.c (by omega) (by omega)]
    · unfold g8; rw [up_n _ _ k8]; exact hg.2 k k0 k1
  have := ag8_rms h8 e0 (τ 0) h.1.1 (Int.le_refl _)
  unfold soA gR
  rw [g8_0, h.n]; exact this
theorem ag_guu {σ τ : Int → Int} (h : Ag σ τ) (d s : Int) : guA σ d s = guu τ d s := by
  have h8 := ag_g8 h d s
  unfold guA guu gur
  rw [g8_0, h.n, h8.2.2 0 (by omega) (by have := h8.1; omega) (by omega)]
theorem ag_gus {σ τ : Int → Int} (h : Ag σ τ) (d s : Int) (hn : τ 0 ≠ 0) : Ag (soW (g8 σ d s)) (gus τ d s) := by
  have h8 := ag_g8 h d s
  have hb := h8.1
  have e0 : soA (g8 σ d s) 0 = gR τ d s 0 := h8.2.2 0 (by omega) (by omega) (by omega)
  have e3 : soA (g8 σ d s) 3 = gR τ d s 3 := h8.2.2 3 (by omega) (by omega) (by omega)
  unfold soW gus
  rw [if_neg hn, g8_0, h.n, e0, e3]
  have f0 : ∀ x y : Int, up (up (gR τ d s) 3 x) 8 y 0 = gR τ d s 0 := fun x y => by rw [up_n _ _ (by omega), up_n _ _ (by omega)]
  refine ⟨by rw [f0]; exact hb, fun k k0 k1 => ?_⟩
  rw [f0] at k1
  by_cases c8 : k = 8
  · rw [c8, up_n _ _ (by omega), up_s, up_n _ _ (by omega)]; exact h8.2.1
  · rw [up_n _ _ c8]
    by_cases c3 : k = 3
    · rw [c3, up_s, up_s]
    · rw [up_n _ _ c3, up_n _ _ c3]; exact h8.2.2 k k0 k1 c8
theorem ag_guv {σ τ : Int → Int} (h : Ag σ τ) (d s : Int) : Ag (guW σ d s) (guv τ d s) := by
  unfold guW guv
  rw [h.n]
  by_cases c : gst d s
  · rw [if_pos c]
    by_cases hn : τ 0 = 0
    · rw [if_neg (fun z => z.2 hn)]; unfold gus; rw [if_pos hn]; exact h
    · rw [if_pos ⟨c, hn⟩]; exact ag_gus h d s hn
  · rw [if_neg (fun z => c z.1), if_neg c]; exact h
theorem ag_pau {σ τ : Int → Int} (h : Ag σ τ) (mi : Int) : pau σ mi = pau τ mi := by
  unfold pau drn
  rw [h.n, h.c (k := 9) (by omega) (by omega), it_cong _ (fun p a => a + bI (isdry τ mi p)) _ _ (fun p a p0 p1 => by
    show a + bI (isdry σ mi p) = a + bI (isdry τ mi p)
    show a + bI (σ (13 + 6 * p + 1) - mi * σ 10 ≤ 0) = a + bI (τ (13 + 6 * p + 1) - mi * τ 10 ≤ 0)
    rw [h.p p0 p1 (by omega) (by omega), h.c (k := 10) (by omega) (by omega)])]
theorem ag_pu2 {σ τ : Int → Int} (h : Ag σ τ) (mi : Int) : pu2 σ mi = pu2 τ mi := by unfold pu2; rw [ag_pau h]
theorem ag_dr {σ τ : Int → Int} (h : Ag σ τ) (mi : Int) : Ag (dr σ mi (σ 0)) (dr τ mi (τ 0)) := by
  have e0 : dr τ mi (τ 0) 0 = τ 0 := dr_n τ mi _ (by omega)
  refine ⟨by rw [e0]; exact h.1, fun k k0 k1 => ?_⟩
  rw [e0] at k1
  unfold dr
  rw [h.n, h.c (k := 10) (by omega) (by omega), h.2 k k0 k1]
theorem dr_up9 (σ : Int → Int) (mi n v : Int) : dr (up σ 9 v) mi n = up (dr σ mi n) 9 v := by
  funext k
  unfold dr
  by_cases c9 : k = 9
  · rw [c9, up_s, up_s, if_neg (by omega)]
  · rw [up_n _ _ c9, up_n _ _ c9, up_n _ _ (show (10 : Int) ≠ 9 by omega)]
theorem ag_pv2 {σ τ : Int → Int} (h : Ag σ τ) (mi : Int) : Ag (pvW σ mi) (pv2 τ mi) := by
  unfold pvW pv2 pas
  rw [h.c (k := 9) (by omega) (by omega)]
  by_cases c : 1 ≤ mi ∧ mi ≤ 99
  · by_cases c9 : 99999 < τ 9 + mi
    · rw [if_neg (by omega), if_pos c, if_pos c9]; exact h
    · rw [if_pos (by omega), if_pos c, if_neg c9, dr_up9]
      exact ag_up (ag_dr h mi) (by omega) rfl
  · rw [if_neg (by omega), if_neg c]; exact h
theorem rmk_at {σ : Int → Int} {n : Int} (hb : 0 ≤ σ 0 ∧ σ 0 ≤ 16) (hn : n ≤ σ 0) : ∀ j : Int, 0 ≤ j → j ≤ n → rmk σ n j 0 = σ 0 - j ∧ (∀ k : Int, 1 ≤ k → k < 13 + 6 * (n - j) → rmk σ n j k = σ k) ∧ ∀ k : Int, 13 + 6 * (n - j) ≤ k → k < 13 + 6 * (σ 0 - j) → rmk σ n j k = σ (k + 6 * j) := by
  intro j j0 j1
  have key := it_ind (fun j st => rmv st (n - 1 - j)) σ (fun j x => x 0 = σ 0 - j ∧ (∀ k : Int, 1 ≤ k → k < 13 + 6 * (n - j) → x k = σ k) ∧ ∀ k : Int, 13 + 6 * (n - j) ≤ k → k < 13 + 6 * (σ 0 - j) → x k = σ (k + 6 * j)) n ⟨by omega, fun k _ _ => rfl, fun k _ _ => by rw [show k + 6 * 0 = k by omega]⟩ (fun i x i0 i1 hx => by
    obtain ⟨x1, x2, x3⟩ := hx
    obtain ⟨a1, a2, a3⟩ := rmv_o x (n - 1 - i) (by omega) (by omega) (by omega)
    show rmv x (n - 1 - i) 0 = σ 0 - (i + 1) ∧ (∀ k : Int, 1 ≤ k → k < 13 + 6 * (n - (i + 1)) → rmv x (n - 1 - i) k = σ k) ∧ ∀ k : Int, 13 + 6 * (n - (i + 1)) ≤ k → k < 13 + 6 * (σ 0 - (i + 1)) → rmv x (n - 1 - i) k = σ (k + 6 * (i + 1))
    refine ⟨by omega, fun k k0 k1 => ?_, fun k k0 k1 => ?_⟩
    · rw [a2 k k0 (by omega), x2 k k0 (by omega)]
    · rw [a3 k (by omega) (by omega), x3 (k + 6) (by omega) (by omega), show k + 6 + 6 * i = k + 6 * (i + 1) by omega]) j j0 j1
  exact key
theorem ag_sv3 {σ τ : Int → Int} (h : Ag σ τ) (hn : τ 0 ≠ 0) (hv : 1 ≤ τ 11 ∧ τ 11 ≤ 4) : Ag (sa3 σ) (sv3 τ) := by
  have hc := ag_cpd h hn hv
  have hs := ag_srv h
  have e1 : srv (sa1 σ) = srv τ := by rw [← hs]; unfold srv sa1; rw [up_n _ _ (by omega), up_n _ _ (by omega)]
  have e2 : sa1 σ 12 = τ 12 := by unfold sa1; rw [up_n _ _ (by omega), h.c (by omega) (by omega)]
  have e3 : sv2 τ 12 = τ 12 := by unfold sv2 sv1; rw [up_n _ _ (by omega), up_n _ _ (by omega)]
  have f0 : sv3 τ 0 = τ 0 := by unfold sv3 sv2 sv1; rw [up_n _ _ (by omega), up_n _ _ (by omega), up_n _ _ (by omega)]
  refine ⟨by rw [f0]; exact h.1, fun k k0 k1 => ?_⟩
  rw [f0] at k1
  unfold sa3 sa2 sv3
  rw [e1, e2, e3, hc, hs]
  by_cases c4 : k = 4
  · rw [c4, up_s, up_n _ _ (by omega)]
    unfold sa1 sv2 sv1
    rw [up_n _ _ (by omega), up_n _ _ (by omega), up_n _ _ (by omega), up_s, h.c (by omega) (by omega)]
  · rw [up_n _ _ c4]
    by_cases c6 : k = 6
    · rw [c6, up_s, up_s]
      unfold sa1 sv2 sv1
      rw [up_n _ _ (by omega), up_n _ _ (by omega), up_n _ _ (by omega), h.c (by omega) (by omega)]
    · rw [up_n _ _ c6, up_n _ _ c6]
      unfold sa1 sv2 sv1
      by_cases c5 : k = 5
      · rw [c5, up_s, up_s, up_n _ _ (by omega), h.c (by omega) (by omega), hc]
      · rw [up_n _ _ c5, up_n _ _ c5, up_n _ _ c4]; exact h.2 k k0 k1
theorem ag_sev {σ τ : Int → Int} (h : Ag σ τ) (hv : 1 ≤ τ 11 ∧ τ 11 ≤ 4) : Ag (sevW σ) (sev τ) := by
  unfold sevW sev
  rw [h.n]
  by_cases hn : τ 0 = 0
  · rw [if_pos hn, if_pos hn]; exact h
  · rw [if_neg hn, if_neg hn, ag_srv h]
    have h3 := ag_sv3 h hn hv
    have hb := h.1
    have hs := srv_b (σ := τ) (by omega) hv
    have f0 : sv3 τ 0 = τ 0 := by unfold sv3 sv2 sv1; rw [up_n _ _ (by omega), up_n _ _ (by omega), up_n _ _ (by omega)]
    have g0 : sa3 σ 0 = τ 0 := by rw [h3.n, f0]
    obtain ⟨a1, a2, a3⟩ := rmk_at (σ := sa3 σ) (n := srv τ) (by omega) (by omega) (srv τ) (by omega) (Int.le_refl _)
    have s0 : srs (sv3 τ) (srv τ) 0 = τ 0 - srv τ := by unfold srs; rw [if_pos rfl, f0]
    refine ⟨by rw [s0]; omega, fun k k0 k1 => ?_⟩
    rw [s0] at k1
    by_cases c0 : k = 0
    · rw [c0, a1, s0, g0]
    · unfold srs
      rw [if_neg c0, f0]
      by_cases c : k < 13
      · rw [a2 k (by omega) (by omega), if_neg (by omega), if_neg (by omega)]; exact h3.2 k k0 (by omega)
      · rw [a3 k (by omega) (by omega), if_pos (by omega)]; exact h3.2 _ (by omega) (by omega)
/-! texts -/
theorem Iv.v {σ : Int → Int} (h : Iv σ) : 1 ≤ σ 11 ∧ σ 11 ≤ 4 := (Iv_iff.mp h).2.2.2.2.2.1
theorem ag_hpU {σ τ : Int → Int} (h : Ag σ τ) (hI : Iv τ) {cL nu sd : Int} (hv : exok cL nu sd) : hpU σ cL nu sd = exU τ cL nu sd := by
  unfold hpU exU
  by_cases c1 : cL = 103
  · rw [if_pos c1, if_pos c1, ag_guu h]; unfold guu; rw [if_pos (hv.1 c1)]
  · rw [if_neg c1, if_neg c1]
    by_cases c2 : cL = 46
    · rw [if_pos c2, if_pos c2, ag_pu2 h]; unfold pu2; rw [if_pos (hv.2.1 c2)]
    · rw [if_neg c2, if_neg c2, ag_seu h hI.v, ag_swu h]
theorem ag_hpV {σ τ : Int → Int} (h : Ag σ τ) (hI : Iv τ) {cL nu sd : Int} (hv : exok cL nu sd) : Ag (hpV σ cL nu sd) (exV τ cL nu sd) := by
  unfold hpV exV
  by_cases c1 : cL = 103
  · rw [if_pos c1, if_pos c1]
    have := ag_guv h nu sd
    unfold guv at this; rw [if_pos (hv.1 c1)] at this; exact this
  · rw [if_neg c1, if_neg c1]
    by_cases c2 : cL = 46
    · rw [if_pos c2, if_pos c2]
      have := ag_pv2 h nu
      unfold pv2 at this; rw [if_pos (hv.2.1 c2)] at this; exact this
    · rw [if_neg c2, if_neg c2]
      by_cases c3 : cL = 99
      · rw [if_pos c3, if_pos c3]; exact ag_sev h hI.v
      · rw [if_neg c3, if_neg c3]; exact ag_swv h nu
theorem ag_er {τ σ ρ : Int → Int} {le : Int} (h : Ag σ ρ) (hI : Iv ρ) (hl : 0 ≤ le ∧ le ≤ 60) (hw : wok τ le) : Ag (ar τ σ le).1 (er τ ρ le).1 ∧ Iv (er τ ρ le).1 ∧ (ar τ σ le).2 = (er τ ρ le).2 := by
  have hf := itp_b τ hl.1 40 (by omega)
  have hf0 : 0 ≤ (fin τ le).2 := hf.1
  have key := it_ind (ars1 τ le) (σ, 0, 0) (fun i x => Ag x.1 (ers τ ρ le i).1 ∧ Iv (ers τ ρ le i).1 ∧ x.2 = (ers τ ρ le i).2) ((fin τ le).2 + 1) ⟨h, hI, rfl⟩ (fun i x i0 i1 hx => by
    obtain ⟨x1, x2, x3⟩ := hx
    obtain ⟨-, ht, -⟩ := itp_tok hl hw i0 (by omega)
    have hv := tok_ex ht
    show Ag (ars1 τ le i x).1 (ers τ ρ le (i + 1)).1 ∧ Iv (ers τ ρ le (i + 1)).1 ∧ (ars1 τ le i x).2 = (ers τ ρ le (i + 1)).2
    rw [ers_s τ ρ le i0]
    unfold ars1 ers1
    rw [x3]
    split
    · have eU : aU τ x.1 le (itp τ le i).1 = xU τ (ers τ ρ le i).1 le (itp τ le i).1 := ag_hpU x1 x2 hv
      have eV : Ag (aV τ x.1 le (itp τ le i).1) (xV τ (ers τ ρ le i).1 le (itp τ le i).1) := ag_hpV x1 x2 hv
      have eI : Iv (xV τ (ers τ ρ le i).1 le (itp τ le i).1) := exV_I x2 hv
      have hb := (exU_b x2 hv).2.2
      have hb : xU τ (ers τ ρ le i).1 le (itp τ le i).1 < 0 → xU τ (ers τ ρ le i).1 le (itp τ le i).1 = -5 ∨ xU τ (ers τ ρ le i).1 le (itp τ le i).1 = -3 ∨ xU τ (ers τ ρ le i).1 le (itp τ le i).1 = -1 ∨ xU τ (ers τ ρ le i).1 le (itp τ le i).1 ≤ -11 := hb
      rw [eU]
      by_cases c : stA (xU τ (ers τ ρ le i).1 le (itp τ le i).1)
      · rw [if_pos c, if_pos (show stp _ by omega)]
        exact ⟨eV, eI, rfl⟩
      · rw [if_neg c, if_neg (show ¬ stp _ by omega)]
        exact ⟨eV, eI, rfl⟩
    · exact ⟨x1, x2, x3⟩) ((fin τ le).2 + 1) (by omega) (Int.le_refl _)
  exact key
theorem er_n {τ ρ : Int → Int} {le : Int} (hl : 0 ≤ le ∧ le ≤ 60) (hc : ¬ (er τ ρ le).2.2 < 0) : (er τ ρ le).2.1 = (fin τ le).2 + 1 := by
  have hf := itp_b τ hl.1 40 (by omega)
  have hf0 : 0 ≤ (fin τ le).2 := hf.1
  have key := it_ind (ers1 τ le) (ρ, 0, 0) (fun i x => x.2.2 ≤ 0 ∧ (x.2.2 = 0 → x.2.1 = i)) ((fin τ le).2 + 1) ⟨Int.le_refl 0, fun _ => rfl⟩ (fun i x i0 i1 hx => by
    show (ers1 τ le i x).2.2 ≤ 0 ∧ ((ers1 τ le i x).2.2 = 0 → (ers1 τ le i x).2.1 = i + 1)
    unfold ers1
    split
    · next c =>
      split
      · next c2 =>
        have : xU τ x.1 le (itp τ le i).1 < 0 := c2.1
        exact ⟨by show xU τ x.1 le (itp τ le i).1 ≤ 0; omega, fun z => absurd z (by show ¬ xU τ x.1 le (itp τ le i).1 = 0; omega)⟩
      · exact ⟨Int.le_refl 0, fun _ => by show x.2.1 + 1 = i + 1; rw [hx.2 c]⟩
    · next c => exact ⟨hx.1, fun z => absurd z c⟩) ((fin τ le).2 + 1) (by omega) (Int.le_refl _)
  have k1 : (er τ ρ le).2.2 ≤ 0 ∧ ((er τ ρ le).2.2 = 0 → (er τ ρ le).2.1 = (fin τ le).2 + 1) := key
  exact k1.2 (by omega)
theorem ag_paU {τ σ ρ : Int → Int} {le : Int} (h : Ag σ ρ) (hI : Iv ρ) (hl : 0 ≤ le ∧ le ≤ 60) : paU τ σ le = pfU τ ρ le := by
  unfold paU pfU
  by_cases hw : wok τ le
  · obtain ⟨-, -, e⟩ := ag_er (τ := τ) h hI hl hw
    rw [if_pos hw, if_pos hw, e]
    split
    · rfl
    · next c => rw [er_n hl c]
  · rw [if_neg hw, if_neg hw]
theorem ag_paV {τ σ ρ : Int → Int} {le : Int} (h : Ag σ ρ) (hI : Iv ρ) (hl : 0 ≤ le ∧ le ≤ 60) : Ag (paV τ σ le) (pfV τ ρ le) ∧ Iv (pfV τ ρ le) := by
  unfold paV pfV
  by_cases hw : wok τ le
  · obtain ⟨e1, e2, e⟩ := ag_er (τ := τ) h hI hl hw
    by_cases c : (er τ ρ le).2.2 < 0
    · rw [if_neg (fun z => z.2 (by rw [e]; exact c)), if_neg (fun z => z.2 c)]; exact ⟨h, hI⟩
    · rw [if_pos ⟨hw, by rw [e]; exact c⟩, if_pos ⟨hw, c⟩]; exact ⟨e1, e2⟩
  · rw [if_neg (fun z => hw z.1), if_neg (fun z => hw z.1)]; exact ⟨h, hI⟩
