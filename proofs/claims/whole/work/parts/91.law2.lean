/-! The law's loop: what it keeps. -/
theorem comu_b {σ : Int → Int} (h : Iv σ) (pa co wi : Int) : -3 ≤ comu σ pa co wi ∧ comu σ pa co wi ≤ 16 := by
  have := (Iv_iff.mp h).1
  unfold comu; (repeat' split) <;> omega
theorem levu_b {σ : Int → Int} (h : Iv σ) (p : Int) : -1 ≤ levu σ p ∧ levu σ p ≤ 999 := by
  obtain ⟨b, f, g⟩ := Iv_iff.mp h
  unfold levu
  split
  · next c => have := (f p c.1 (by omega)).1.2.1; omega
  · omega
theorem ltu_b {σ : Int → Int} (h : Iv σ) (p : Int) : -1 ≤ ltu σ p ∧ ltu σ p ≤ 200 := by
  obtain ⟨b, f, g⟩ := Iv_iff.mp h
  unfold ltu
  split
  · next c => have := (f (p + 1) (by omega) (by omega)).1.2.2.2.2; omega
  · omega
theorem setu_b {σ : Int → Int} (h : Iv σ) (wh v : Int) : -5 ≤ setu σ wh v ∧ setu σ wh v ≤ 99 := by
  obtain ⟨b, f, g⟩ := Iv_iff.mp h
  unfold setu
  by_cases c : 0 ≤ wh ∧ wh ≤ 2
  · have := stg_b (σ := σ) g.2.2.1 g.2.2.2.1 g.2.2.2.2 c.1 c.2
    (repeat' split) <;> omega
  · rw [if_neg c]; omega
theorem gur_b2 {σ : Int → Int} (h : Iv σ) (d s : Int) : -5 ≤ gur σ d s ∧ gur σ d s ≤ 16 := by
  have b := (Iv_iff.mp h).1
  have hr := rms_i (rmo_ok goes_o) (σ := gw σ d s (σ 0)) (n := σ 0) (gw_n σ d s _ (by omega)) b.2 (σ 0) b.1 (Int.le_refl _)
  have h1 : gR σ d s 0 ≤ σ 0 := hr.1
  have h2 : σ 0 - σ 0 ≤ gR σ d s 0 := hr.2.1
  unfold gur; split <;> omega
theorem guv_I {σ : Int → Int} (h : Iv σ) (d s : Int) : Iv (guv σ d s) := by
  unfold guv; split
  · next c => exact gus_I h c.1.1 c.1.2
  · exact h
theorem pv2_I {σ : Int → Int} (h : Iv σ) (mi : Int) : Iv (pv2 σ mi) := by
  unfold pv2; split
  · exact pas_I h (by omega)
  · exact h
section RM
variable {σ ς : Int → Int} {η : Nat → Int → Int} {dp : Int} {t qA u σB ςB β qB : Int → Int}
theorem Rl.sub (h : Rl σ ς η dp t qA u σB ςB β qB) {η' : Nat → Int → Int} (hη : ∀ i : Nat, (i : Int) < dp → η' i = η i) {qA' u' qB' : Int → Int} (a1 : qA' 1 = qA 1) (u4 : u' 4 = u 4) (b3 : qB' 3 = qB 3) (b5 : qB' 5 = qB 5) (b7 : qB' 7 = qB 7) (u5 : u' 5 = qB' 8) (u6 : u' 6 = qB' 9) : Rl σ ς η' dp t qA' u' σB ςB β qB' := by
  obtain ⟨z, a, b, c, d, e, f, g, -, -⟩ := h
  refine ⟨z, by rw [u4, b3]; exact a, b, by rw [b3]; exact c, by rw [b5]; exact d, fun i hi => by rw [hη i hi]; exact e i hi, by rw [a1, b7]; exact f, g, u5, u6⟩
theorem rq_n (τ q : Int → Int) (le P : Int) {k : Int} (hk : k ≤ 9) : rq τ q le P k = q k := by
  unfold rq
  rw [up_n _ _ (by omega), up_n _ _ (by omega), up_n _ _ (by omega), up_n _ _ (by omega), up_n _ _ (by omega)]
theorem bq_n (τ q : Int → Int) (le P : Int) {k : Int} (hk : k ≤ 9) : bq τ q le P k = q k := by
  unfold bq
  rw [up_n _ _ (by omega), up_n _ _ (by omega), up_n _ _ (by omega), up_n _ _ (by omega), up_n _ _ (by omega)]
theorem pfq2_n (τ σ q : Int → Int) (le : Int) {k : Int} (hk : k ≤ 9) : pfq2 τ σ q le k = q k := by
  unfold pfq2
  rw [up_n _ _ (by omega), rq_n _ _ _ _ hk, up_n _ _ (by omega), rq_n _ _ _ _ hk]
theorem bx_n (τ q : Int → Int) (le : Int) {k : Int} (hk : k ≤ 9) : bx τ q le k = q k := by
  unfold bx
  split
  · rw [up_n _ _ (by omega), rq_n _ _ _ _ hk]
  · rw [up_n _ _ (by omega), bq_n _ _ _ _ hk]
theorem Rl.perf (h : Rl σ ς η dp t qA u σB ςB β qB) {le : Int} (e : qA 1 = le) (x y : Int) : Rl (paV t σ le) ς (if pdone t σ le then rcH ((fin t le).2 + 1) dp (upN η dp.toNat σ) else if wok t le then upN η dp.toNat σ else η) (if pdone t σ le then rcP ((fin t le).2 + 1) dp else dp) t (up (up qA 6 x) 5 y) (if pstop t σ le then up (up u 5 (ar t σ le).2.1) 6 (ar t σ le).2.2 else u) (pfV t σB le) ςB (if wok t le ∧ ¬ (er t σB le).2.2 < 0 then rcB β σB (qB 5) else β) (pfQ t σB qB le) := by
  have hl : 0 ≤ le ∧ le ≤ 60 := by rw [← e]; exact h.b1
  have hv := ag_paV (τ := t) h.ag h.ib hl
  have a1 : up (up qA 6 x) 5 y 1 = qA 1 := by rw [up_n _ _ (by omega), up_n _ _ (by omega)]
  have hx : ∀ i : Nat, (i : Int) < dp → upN η dp.toNat σ i = η i := fun i hi => by unfold upN; rw [if_neg (by omega)]
  have hf := itp_b t hl.1 40 (by omega)
  have hf0 : 0 ≤ (fin t le).2 := hf.1
  have u58 : u 5 = qB 8 := h.2.2.2.2.2.2.2.2.1
  have u69 : u 6 = qB 9 := h.2.2.2.2.2.2.2.2.2
  by_cases hw : wok t le
  · obtain ⟨-, -, e3⟩ := ag_er (τ := t) h.ag h.ib hl hw
    by_cases c : (er t σB le).2.2 < 0
    · have n1 : ¬ pdone t σ le := fun z => z.2 (by rw [e3]; exact c)
      have n2 : pstop t σ le := ⟨hw, by rw [e3]; exact c⟩
      rw [if_neg n1, if_neg n1, if_pos hw, if_pos n2, if_neg (fun z => z.2 c), e3]
      unfold pfQ
      rw [if_pos hw, if_pos c]
      refine (h.st hv.1 hv.2).sub hx a1 ?_ ?_ ?_ ?_ ?_ ?_
      · rw [up_n _ _ (by omega), up_n _ _ (by omega)]
      · rw [up_n _ _ (by omega), up_n _ _ (by omega), pfq2_n _ _ _ _ (by omega)]
      · rw [up_n _ _ (by omega), up_n _ _ (by omega), pfq2_n _ _ _ _ (by omega)]
      · rw [up_n _ _ (by omega), up_n _ _ (by omega), pfq2_n _ _ _ _ (by omega)]
      · rw [up_n _ _ (by omega), up_s, up_n _ _ (by omega), up_s]
      · rw [up_s, up_s]
    · have n1 : pdone t σ le := ⟨hw, by rw [e3]; exact c⟩
      have n2 : ¬ pstop t σ le := fun z => c (by have := z.2; rw [e3] at this; exact this)
      rw [if_pos n1, if_pos n1, if_neg n2, if_pos ⟨hw, c⟩]
      unfold pfQ rcH rcP
      rw [if_pos hw, if_neg c, if_pos (by omega), if_pos (by omega)]
      refine (h.rec hv.1 hv.2).sub (fun _ _ => rfl) a1 rfl ?_ ?_ ?_ ?_ ?_
      · rw [rcQ_n _ (by omega), rcQ_n _ (by omega), pfq2_n _ _ _ _ (by omega)]
      · rw [rcQ_5, rcQ_5, pfq2_n _ _ _ _ (by omega)]
      · rw [rcQ_n _ (by omega), rcQ_n _ (by omega), pfq2_n _ _ _ _ (by omega)]
      · rw [rcQ_n _ (by omega), pfq2_n _ _ _ _ (by omega)]; exact u58
      · rw [rcQ_n _ (by omega), pfq2_n _ _ _ _ (by omega)]; exact u69
  · have n1 : ¬ pdone t σ le := fun z => hw z.1
    have n2 : ¬ pstop t σ le := fun z => hw z.1
    rw [if_neg n1, if_neg n1, if_neg hw, if_neg n2, if_neg (fun z => hw z.1)]
    unfold pfQ
    rw [if_neg hw]
    refine (h.st hv.1 hv.2).sub (fun _ _ => rfl) a1 rfl ?_ ?_ ?_ ?_ ?_
    · rw [up_n _ _ (by omega), up_n _ _ (by omega), bx_n _ _ _ (by omega)]
    · rw [up_n _ _ (by omega), up_n _ _ (by omega), bx_n _ _ _ (by omega)]
    · rw [up_n _ _ (by omega), up_n _ _ (by omega), bx_n _ _ _ (by omega)]
    · rw [up_n _ _ (by omega), up_n _ _ (by omega), bx_n _ _ _ (by omega)]; exact u58
    · rw [up_n _ _ (by omega), up_n _ _ (by omega), bx_n _ _ _ (by omega)]; exact u69
theorem Rl.ty (h : Rl σ ς η dp t qA u σB ςB β qB) {ch : Int} (hc : 0 ≤ ch ∧ ch < 65536) : Rl σ ς η dp (if qA 1 = 60 then t else up t (qA 1) ch) (if qA 1 = 60 then qA else up qA 1 (qA 1 + 1)) u σB ςB β (if qB 7 = 60 then qB else up qB 7 (qB 7 + 1)) := by
  have b1 := h.b1
  rw [h.q7]
  by_cases c : qA 1 = 60
  · rw [if_pos c, if_pos c, if_pos c]; exact h
  · rw [if_neg c, if_neg c, if_neg c]
    obtain ⟨z, a, b, c', d, e, f, g, i, j⟩ := h
    refine ⟨z, ?_, b, ?_, ?_, e, ?_, fun x x0 x1 => ?_, ?_, ?_⟩
    · rw [up_n _ _ (by omega)]; exact a
    · rw [up_n _ _ (by omega)]; exact c'
    · rw [up_n _ _ (by omega)]; exact d
    · rw [up_s, up_s]; exact ⟨rfl, by omega, by omega⟩
    · unfold up; split
      · omega
      · exact g x x0 x1
    · rw [up_n _ _ (by omega)]; exact i
    · rw [up_n _ _ (by omega)]; exact j
theorem Rl.cl (h : Rl σ ς η dp t qA u σB ςB β qB) : Rl σ ς η dp t (up qA 1 0) u σB ςB β (up qB 7 0) := by
  obtain ⟨z, a, b, c', d, e, f, g, i, j⟩ := h
  refine ⟨z, ?_, b, ?_, ?_, e, ?_, g, ?_, ?_⟩
  · rw [up_n _ _ (by omega)]; exact a
  · rw [up_n _ _ (by omega)]; exact c'
  · rw [up_n _ _ (by omega)]; exact d
  · rw [up_s, up_s]; exact ⟨rfl, by omega, by omega⟩
  · rw [up_n _ _ (by omega)]; exact i
  · rw [up_n _ _ (by omega)]; exact j
theorem Rl.un (h : Rl σ ς η dp t qA u σB ςB β qB) : Rl (if dp = 0 then σ else η (dp - 1).toNat) ς η (if dp = 0 then 0 else dp - 1) t qA u (if qB 5 = 0 then σB else hst β (qB 5 - 1)) ςB β (if qB 5 = 0 then qB else up qB 5 (qB 5 - 1)) := by
  have hd := h.dd
  rw [h.q5]
  by_cases c : dp = 0
  · rw [if_pos c, if_pos c, if_pos c, if_pos c, ← c]; exact h
  · rw [if_neg c, if_neg c, if_neg c, if_neg c]
    obtain ⟨z, a, b, c', d, e, f, g, i, j⟩ := h
    have hx := e (dp - 1).toNat (by omega)
    rw [show (((dp - 1).toNat : Nat) : Int) = dp - 1 by omega] at hx
    refine ⟨hx, ?_, b, ?_, ?_, fun i hi => e i (by omega), ?_, g, ?_, ?_⟩
    · rw [up_n _ _ (by omega)]; exact a
    · rw [up_n _ _ (by omega)]; exact c'
    · rw [up_s]; exact ⟨rfl, by omega, by omega⟩
    · rw [up_n _ _ (by omega)]; exact f
    · rw [up_n _ _ (by omega)]; exact i
    · rw [up_n _ _ (by omega)]; exact j
theorem Rl.kp (h : Rl σ ς η dp t qA u σB ςB β qB) : Rl σ σ η dp t qA (up u 4 1) σB σB β (up qB 3 1) := by
  have hb := (Iv_iff.mp h.ia).1
  obtain ⟨z, a, b, c', d, e, f, g, i, j⟩ := h
  refine ⟨z, ?_, hb, fun _ => z, ?_, e, ?_, g, ?_, ?_⟩
  · rw [up_s, up_s]; omega
  · rw [up_n _ _ (by omega)]; exact d
  · rw [up_n _ _ (by omega)]; exact f
  · rw [up_n _ _ (by omega), up_n _ _ (by omega)]; exact i
  · rw [up_n _ _ (by omega), up_n _ _ (by omega)]; exact j
theorem Rl.re (h : Rl σ ς η dp t qA u σB ςB β qB) : Rl (if u 4 = 0 then σ else ς) ς (if u 4 = 0 then η else kh dp (upN η dp.toNat σ)) (if u 4 = 0 then dp else kdp dp) t qA u (if qB 3 = 0 then σB else ςB) ςB (if qB 3 = 0 then β else rcB β σB (qB 5)) (if qB 3 = 0 then qB else rcQ qB) := by
  have h3 := h.2.1
  rw [h3.1]
  by_cases c : qB 3 = 0
  · rw [if_pos c, if_pos c, if_pos c, if_pos c, if_pos c, if_pos c]; exact h
  · rw [if_neg c, if_neg c, if_neg c, if_neg c, if_neg c, if_neg c]
    have hk := h.2.2.2.1 (by omega)
    exact h.rec hk.1 hk.2
theorem Rl.reu (h : Rl σ ς η dp t qA u σB ςB β qB) : (if u 4 = 0 then (-5 : Int) else ς 0) = (if qB 3 = 0 then -5 else ςB 0) := by
  have h3 := h.2.1
  rw [h3.1]
  by_cases c : qB 3 = 0
  · rw [if_pos c, if_pos c]
  · rw [if_neg c, if_neg c]
    exact (h.2.2.2.1 (by omega)).1.n
end RM
/-- the loop's world -/
def LH (D : va_G) (cI cC cS : ClassId) (s : State) (x y : Nat) (H : Heap) (locs : List Loc) : Prop :=
  ∃ (hn : Nat) (adn : Nat → Nat) (hsn : Nat) (ads : Nat → Nat) (hh har hw : Nat) (adw : Nat → Nat) (σ ς : Int → Int) (hs : Nat → Nat) (ha : Nat → Nat → Nat) (η : Nat → Int → Int) (dp : Int) (τ kd am sd q u : Int → Int) (ad : Nat → Nat) (σB α ςB β qB : Int → Int),
    Rl σ ς η dp τ q u σB ςB β qB ∧ Wd D (fun a => s.heap.size ≤ a) s (uW cI cC cS x hn adn hsn ads hh har hw adw σ ς hs ha η dp τ kd am sd q u ++ mW cI y ad σB α ςB β τ qB) H locs
theorem LH.mk {D : va_G} {cI cC cS : ClassId} {s : State} {x y : Nat} {H : Heap} {locs : List Loc} {hn : Nat} {adn : Nat → Nat} {hsn : Nat} {ads : Nat → Nat} {hh har hw : Nat} {adw : Nat → Nat} {σ ς : Int → Int} {hs : Nat → Nat} {ha : Nat → Nat → Nat} {η : Nat → Int → Int} {dp : Int} {τ kd am sd q u : Int → Int} {ad : Nat → Nat} {σB α ςB β qB : Int → Int}
    (w : Wd D (fun a => s.heap.size ≤ a) s (uW cI cC cS x hn adn hsn ads hh har hw adw σ ς hs ha η dp τ kd am sd q u ++ mW cI y ad σB α ςB β τ qB) H locs) (h : Rl σ ς η dp τ q u σB ςB β qB) : LH D cI cC cS s x y H locs :=
  ⟨hn, adn, hsn, ads, hh, har, hw, adw, σ, ς, hs, ha, η, dp, τ, kd, am, sd, q, u, ad, σB, α, ςB, β, qB, h, w⟩
def Xs (xs : Nat → Int32) (j : Int) : Int := (xs j.toNat).toInt
theorem Xs_b (xs : Nat → Int32) (j : Int) : -2147483648 ≤ Xs xs j ∧ Xs xs j ≤ 2147483647 := ⟨jj_lo _, jj_hi _⟩
section QL
variable {p : Program} {l : Launch} {e : Env} {R : Room} {s : State} {m : MethodId} {args : Array Value} {below : List Frame} {meth : Method} {c : Code} {H : Heap} {locs : List Loc} {cells slots : Nat} {Q : State → Prop}
variable {cc : ByteArray} {nL : Nat} {own : String} {Ts : List Cond} {D : va_G} {tys : List (ClassId × FieldType)} {ret0 : Option FieldType} {pc : Nat} {ls : Array Slot} {rest : List Value} {ws : va_W}
theorem q_sc {b L : Nat} {xs : Nat → Int32} {j : Int} (C : Cx p s m args meth c cc nL own Ts D tys (fun a => s.heap.size ≤ a) ret0) (w : Wd D (fun a => s.heap.size ≤ a) s ws H locs) (hX : va_X b L xs s s.heap) (hbl : b < s.heap.size) (hj : 0 ≤ j ∧ j < L) (hL : L ≤ 2560) (hdg : decode cc pc = .ok (.iaload, 1))
    (kk : W p l e R s m args below meth c H locs cells slots Q (F0 m (pc + 1) ls (.int (jj (Xs xs j)) :: rest))) : W p l e R s m args below meth c H locs cells slots Q (F0 m pc ls (.int (jj j) :: .ref b :: rest)) := by
  have e1 := jj_cl (i := j) hj.1 (by omega)
  refine va_sld C.1 C.2.1 hX hbl (by omega) w.2.2 (jj_in hj.1 hj.2 (by omega)) hdg ?_
  have e2 : xs (jj j).toNatClampNeg = jj (Xs xs j) := by
    unfold Xs; rw [jj_of, show (jj j).toNatClampNeg = j.toNat by omega]
  rw [e2]; exact kk
theorem q_icmpE {x y : Int} {off : Int} {tgt : Nat} {A : Nat → Prop} (C : Cx p s m args meth c cc nL own Ts D tys A ret0) (hdg : decode cc pc = .ok (.if_icmp .eq off, 3)) (ht : (pc : Int) + off = (tgt : Int)) (he : x = y)
    (kt : W p l e R s m args below meth c H locs cells slots Q (F0 m tgt ls rest)) : W p l e R s m args below meth c H locs cells slots Q (F0 m pc ls (.int (jj y) :: .int (jj x) :: rest)) :=
  lv_icmp_eq C.1 C.2.1 hdg ht (fun _ => kt) (fun h => absurd (congrArg jj he) h)
end QL
