/-! The law's walk: its own rows. -/
def lowm (x : Int) : Int := (jj x &&& jj 2147483647).toInt
def lowv (x n : Int) : Int := lowm x % n
theorem jj_ofNat (n : Nat) : Int32.ofNat n = jj (n : Int) := by
  unfold jj
  first
  | rfl
  | simp
  | (apply Int32.toBitVec_inj.mp; simp)
theorem lowm_b (x : Int) : 0 ≤ lowm x ∧ lowm x ≤ 2147483647 := by
  obtain ⟨j, hj, ej⟩ := pk_andE (jj x) (m := jj 2147483647) 31 (by decide +kernel)
  unfold lowm
  rw [ej, show nI j = jj (j : Int) from jj_ofNat j, jj_toInt (by omega) (by omega)]
  omega
theorem lowv_b (x : Int) {n : Int} (hn : 0 < n) : 0 ≤ lowv x n ∧ lowv x n < n := ⟨Int.emod_nonneg _ (by omega), Int.emod_lt_of_pos _ hn⟩
theorem low_e {m n : Int} (h0 : 0 ≤ m) (h1 : m ≤ 2147483647) (hn : 0 < n) (hn2 : n ≤ 2147483647) : jj m - jj m / jj n * jj n = jj (m % n) := by
  rw [jj_div h0 h1 hn hn2, jj_mul, jj_sub, Int.emod_def, Int.mul_comm]
def shv (x : Int) : Int := (jj x >>> (jj 8 &&& 31)).toInt
def shw (x : Int) : Int := (jj x >>> (jj 6 &&& 31)).toInt
/-- a contract that makes objects: cells and slots -/
def Kj (l : Launch) (y : MethodName) (ws : List Cond) (rm : Room) (D : va_G) (tys : List (ClassId × FieldType)) (av : List Value) (w0 : va_W) (ev : Int) (w1 : va_W) (mc ms : Nat) : Prop :=
  ∀ sz : Nat, Met l y ws rm (va_Pc av (pW D tys sz w0)) (Qi D tys ev w1 (va_A w0 sz)) mc ms (va_A w0 sz)
def Fj (y : MethodName) (ws : List Cond) (rm : Room) (bytes : ByteArray) (nL : Nat) (ret : Option FieldType) (n mc ms : Nat) : Prop :=
  (∃ ws', ws = Cond.code y bytes nL ret :: ws') ∧ rm.cells = mc ∧ rm.slots = ms ∧ y.cls ≠ "java/lang/invoke/MethodHandle" ∧ y.cls ≠ "java/lang/invoke/VarHandle" ∧ (parseMethodDescriptor y.desc).map (fun d => d.parameters.length) = some n
theorem wd_l {D : va_G} {A : Nat → Prop} {s : State} {a b : va_W} {H : Heap} {locs : List Loc} (w : Wd D A s (a ++ b) H locs) : Wd D A s a H locs := by
  refine ⟨vP_l w.1, ?_, w.2.2⟩
  have h := vD_iff.mp w.2.1
  exact vD_iff.mpr ⟨(List.pairwise_append.mp h.1).1, fun q hq => h.2 q (List.mem_append_left _ hq)⟩
section QK
variable {p : Program} {l : Launch} {e : Env} {R : Room} {s : State} {m : MethodId} {args : Array Value} {below : List Frame} {meth : Method} {c : Code} {H : Heap} {locs : List Loc} {cells slots : Nat} {Q : State → Prop}
variable {cc : ByteArray} {nL : Nat} {own : String} {Ts : List Cond} {D : va_G} {tys : List (ClassId × FieldType)} {A : Nat → Prop} {ret : Option FieldType} {pc : Nat} {ls : Array Slot} {rest : List Value} {ws wc w1 ws' : va_W}
theorem q_icmpE {x y : Int} {off : Int} {tgt : Nat} (C : Cx p s m args meth c cc nL own Ts D tys A ret) (hdg : decode cc pc = .ok (.if_icmp .eq off, 3)) (ht : (pc : Int) + off = (tgt : Int)) (he : x = y)
    (kt : W p l e R s m args below meth c H locs cells slots Q (F0 m tgt ls rest)) : W p l e R s m args below meth c H locs cells slots Q (F0 m pc ls (.int (jj y) :: .int (jj x) :: rest)) :=
  lv_icmp_eq C.1 C.2.1 hdg ht (fun _ => kt) (fun h => absurd (congrArg jj he) h)
theorem q_icmpN {x y : Int} {off : Int} {tgt : Nat} (C : Cx p s m args meth c cc nL own Ts D tys A ret) (hdg : decode cc pc = .ok (.if_icmp .ne off, 3)) (ht : (pc : Int) + off = (tgt : Int)) (he : x = y)
    (kf : W p l e R s m args below meth c H locs cells slots Q (F0 m (pc + 3) ls rest)) : W p l e R s m args below meth c H locs cells slots Q (F0 m pc ls (.int (jj y) :: .int (jj x) :: rest)) :=
  lv_icmp_ne C.1 C.2.1 hdg ht (fun h => absurd (congrArg jj he) h) (fun _ => kf)
theorem q_shv {x : Int} (C : Cx p s m args meth c cc nL own Ts D tys A ret) (hdg : decode cc pc = .ok (.ishr, 1)) (kk : W p l e R s m args below meth c H locs cells slots Q (F0 m (pc + 1) ls (.int (jj (shv x)) :: rest))) : W p l e R s m args below meth c H locs cells slots Q (F0 m pc ls (.int (jj 8) :: .int (jj x) :: rest)) :=
  lv_ishr C.1 C.2.1 hdg (by rw [show jj x >>> (jj 8 &&& 31) = jj (shv x) from (jj_of _).symm]; exact kk)
theorem q_shw {x : Int} (C : Cx p s m args meth c cc nL own Ts D tys A ret) (hdg : decode cc pc = .ok (.ishr, 1)) (kk : W p l e R s m args below meth c H locs cells slots Q (F0 m (pc + 1) ls (.int (jj (shw x)) :: rest))) : W p l e R s m args below meth c H locs cells slots Q (F0 m pc ls (.int (jj 6) :: .int (jj x) :: rest)) :=
  lv_ishr C.1 C.2.1 hdg (by rw [show jj x >>> (jj 6 &&& 31) = jj (shw x) from (jj_of _).symm]; exact kk)
theorem q_irem {a b : Int} (C : Cx p s m args meth c cc nL own Ts D tys A ret) (hdg : decode cc pc = .ok (.irem, 1)) (ha : 0 ≤ a ∧ a ≤ 2147483647) (hb : 0 < b ∧ b ≤ 2147483647) (kk : W p l e R s m args below meth c H locs cells slots Q (F0 m (pc + 1) ls (.int (jj (a % b)) :: rest))) : W p l e R s m args below meth c H locs cells slots Q (F0 m pc ls (.int (jj b) :: .int (jj a) :: rest)) :=
  lv_irem C.1 C.2.1 hdg (fun h => by
    have h2 : jj b = jj 0 := h
    rw [jj_inj (by omega) (by omega) (by omega) (by omega)] at h2
    omega) (by rw [low_e ha.1 ha.2 hb.1 hb.2]; exact kk)
theorem q_runj {ev : Int} {mc ms : Nat} {st0 : List Value} {a : Array Value} (C : Cx p s m args meth c cc nL own Ts D tys A ret) (w : Wd D A s ws H locs) (fr : Fr ws wc w1 ws')
    (hr : va_Run p l e R s m args below meth c H locs cells slots mc ms (F0 m pc ls st0) rest (Qi D tys ev w1 (va_A wc H.size) a) (va_A wc H.size))
    (kk : ∀ (H1 : Heap) (locs1 : List Loc), Wd D A s ws' H1 locs1 → W p l e R s m args below meth c H1 locs1 (cells + mc) (slots + ms) Q (F0 m (pc + 3) ls (.int (jj ev) :: rest))) : W p l e R s m args below meth c H locs cells slots Q (F0 m pc ls st0) := by
  have hF := fr_F fr w.2.1 w.2.2 C.hA
  refine va_calli hr w.2.2 (fun q _ h => hF q h) hF (fun r u t H1 locs1 ht hvm hpost hB hz hk hS => ?_)
  subst hpost
  obtain ⟨hP1, -, hD1⟩ := hB
  rw [ht] at hP1
  exact kk H1 locs1 (wd_frame fr w C.hA hk hP1 hD1 hS)
theorem q_Sj {y : MethodName} {wy : List Cond} {rm : Room} {bytes : ByteArray} {maxL n index mc ms : Nat} {retY : Option FieldType} {As : List Value} {Qc : Array Value → State → Outcome → State → Prop} {fr1 : Nat → Prop}
    (C : Cx p s m args meth c cc nL own Ts D tys A ret) (w : Wd D A s ws H locs) (fr : Fr ws wc wc ws) (F : Fj y wy rm bytes maxL retY n mc ms) (hG : GoodIn Ts (va_wsS own index y wy))
    (hR : rm.frames + 1 ≤ R.frames ∧ 8 + (maxL + 11) + rm.locals ≤ R.locals) (hM : Met l y wy rm (va_Pc As (pW D tys H.size wc)) Qc mc ms fr1)
    (hn : As.length = n) {st : List Value} (hst : st = As.reverse ++ rest) {lv : List (Nat × Value)} (hl : lv_has ls nL lv) (hcat : (rest.map fun v => v.category).sum ≤ 8) (hdg : decode cc pc = .ok (.invokestatic index, 3)) (hcs : cells + mc ≤ R.cells ∧ slots + ms ≤ R.slots) :
    va_Run p l e R s m args below meth c H locs cells slots mc ms (F0 m pc ls st) rest (Qc As.toArray) fr1 := by
  obtain ⟨⟨wy', hwy⟩, hrc, hrs, hd⟩ := F
  exact va_runS (As := As) (rest := rest) C.fix hM (va_cwS n C.ts hG hwy hrc hrs hd hR) ⟨pre_blind, pre_here C w fr⟩ rfl hn hl.1 hst (lv_room hcat) hdg hcs
theorem q_iretj {ev v : Int} {mc ms : Nat} (C : Cx p s m args meth c cc nL own Ts D tys A (some .int)) (w : Wd D A s ws H locs) (hm : cells ≤ mc) (hs : slots ≤ ms) (hdg : decode cc pc = .ok (.ireturn, 1)) (hv : v = ev) (hw : ws = w1) :
    W p l e R s m args below meth c H locs cells slots (MQ below (Qi D tys ev w1 A) args s mc ms A) (F0 m pc ls [.int (jj v)]) := by
  subst hv; subst hw
  have hlocks := C.locks
  refine W.widen (k := mc) (n := ms) hm hs ?_
  exact W.iret (v := jj v) C.1 C.2.1 C.hr (fun t ht hW => ⟨⟨jj v, (), rfl, rfl, (end_w C w t ht hW).1⟩, (end_w C w t ht hW).2⟩) w.2.2.2.2 hdg
end QK
def rL_low : Room := { frames := 0, cells := 0, slots := 0, locals := 0 }
theorem fL_low : Fc yL_low wsL_low rL_low cL_low 2 (some .int) 2 := ⟨⟨_, rfl⟩, rfl, rfl, by decide +kernel, by decide +kernel, by decide +kernel⟩
theorem kL_low (l : Launch) (D : va_G) (cI cC cS : ClassId) (x n : Int) (hn : 0 < n ∧ n ≤ 2147483647) : Ki l yL_low wsL_low rL_low D (tz cI cC cS) [.int (jj x), .int (jj n)] [] (lowv x n) [] := by
  refine q_entry (cc := cL_low) (nL := 2) (ret := (some .int)) (by decide) ⟨_, rfl⟩ (Nat.le_of_ble_eq_true rfl) ?_
  intro A pr en s m args below meth c C hin w ls hl
  have w := w
  have hl : lv_has ls 2 [(0, .int (jj x)), (1, .int (jj n))] := hl
  have hm := lowm_b x
  refine q_iload_n C hl dL_low_0 rfl 0 rfl ?_
  refine lv_ldc (v := jj 2147483647) C.1 C.2.1 C.ho (C.ts _ (List.mem_of_getElem? (i := 1) rfl)) dL_low_1 ?_
  refine lv_iand C.1 C.2.1 dL_low_3 ?_
  rw [show jj x &&& jj 2147483647 = jj (lowm x) from (jj_of _).symm]
  refine q_iload_n C hl dL_low_4 rfl 1 rfl ?_
  refine q_irem C dL_low_5 hm hn ?_
  exact q_iret C w dL_low_6 rfl rfl
theorem hit_iff {σ : Int → Int} {q p : Int} (q0 : 0 ≤ q) (q1 : q < σ 0) : hit σ q p ↔ 0 < σ (13 + 6 * q + 4) ∧ 0 ≤ p ∧ p < σ 0 ∧ q - σ (13 + 6 * q + 4) / 2 ≤ p ∧ p ≤ q + (σ (13 + 6 * q + 4) - 1) / 2 := by
  show (0 < σ (13 + 6 * q + 4) ∧ lst σ q ≤ p ∧ p ≤ grt σ q) ↔ _
  unfold lst grt
  constructor <;> intro h <;> omega
theorem wtu_d {σ : Int → Int} (h : Iv σ) : (σ 0 = 0 ∧ wtu σ = -5) ∨ (σ 0 ≠ 0 ∧ 0 ≤ wtu σ ∧ wtu σ < σ 0) := by
  by_cases c : σ 0 = 0
  · exact Or.inl ⟨c, wtu_0 c⟩
  · have := (wtu_c h c).2.1
    exact Or.inr ⟨c, this.1, this.2⟩
theorem it_end {α : Type} (f : Int → α → α) (a : α) {i n : Int} (h : i = n - 1 ∨ (i = 0 ∧ n = 0)) : it f a (n - 1) = it f a i := by
  rcases h with rfl | ⟨rfl, rfl⟩
  · rfl
  · rw [it_z f a (by omega), it_0]
/-! the history through the swaps that are taken back -/
abbrev H4 : Type := (Nat → Nat) × (Nat → Nat → Nat) × (Nat → Int → Int) × Int
def hstep (σ : Int → Int) (p : Int) (x : H4) : H4 := if swu σ p < 0 then (rcH (swu σ p) x.2.2.2 x.1, rcH (swu σ p) x.2.2.2 x.2.1, rcH (swu σ p) x.2.2.2 (upN x.2.2.1 x.2.2.2.toNat σ), rcP (swu σ p) x.2.2.2) else (rcH (swu σ p) x.2.2.2 x.1, rcH (swu σ p) x.2.2.2 x.2.1, rcH (swu σ p) x.2.2.2 (upN x.2.2.1 x.2.2.2.toNat σ), if rcP (swu σ p) x.2.2.2 = 0 then 0 else rcP (swu σ p) x.2.2.2 - 1)
def hbs (σ : Int → Int) (hs : Nat → Nat) (ha : Nat → Nat → Nat) (η : Nat → Int → Int) (dp : Int) (i : Int) : H4 := it (hstep σ) (hs, ha, η, dp) i
theorem hbs_s (σ : Int → Int) (hs : Nat → Nat) (ha : Nat → Nat → Nat) (η : Nat → Int → Int) (dp : Int) {i : Int} (h : 0 ≤ i) : hbs σ hs ha η dp (i + 1) = hstep σ i (hbs σ hs ha η dp i) := it_s _ _ h
theorem und_e {σ τ : Int → Int} {η : Nat → Int → Int} {v dp : Int} (hv : 0 ≤ v) (hd : 0 ≤ dp ∧ dp ≤ 4) : (if rcP v dp = 0 then τ else (rcH v dp (upN η dp.toNat σ)) (rcP v dp - 1).toNat) = σ := by
  unfold rcP rcH kh kdp
  rw [if_pos hv, if_pos hv]
  by_cases c : dp < 4
  · rw [if_pos c, if_pos c, if_neg (by omega), show (dp + 1 - 1).toNat = dp.toNat by omega]
    exact if_pos rfl
  · have e : dp = 4 := by omega
    subst e
    rw [if_neg (by omega), if_neg (by omega), if_neg (by omega)]
    rfl
