/-! The law: its loop, its start. -/
theorem jj_ofNat (n : Nat) : Int32.ofNat n = jj (n : Int) := by
  unfold jj
  first
  | rfl
  | simp
  | (apply Int32.toBitVec_inj.mp; simp)
def lw_P (b : Addr) (xs : List Int32) (args : Array Value) (s : State) : Prop := args = #[.ref b] ∧ s.IntsAt b xs ∧ xs.length ≤ 2560 ∧ (Jvm.Cond.and given_1 narrow_1).before args s = true
def lw_Q (_ : Array Value) (s : State) (o : Outcome) (t : State) : Prop := o = .returned (some (.int 1)) ∧ Framed s o t [] 600000 7302250
def lw_Z (below : List Frame) (a : Array Value) (s : State) : State → Prop := fun t => ∃ o, t.status = .running ∧ Ended t below o ∧ lw_Q a s o t
/-- the law's own end, with 1 on the stack, nothing written that was there before, its room as the claim has it -/
theorem lw_ret {p : Program} {l : Launch} {e : Env} {s : State} {m : MethodId} {below : List Frame} {meth : Method} {c : Code} {b : Nat} (hx : p.tables.exec = Jvm.exec) (hb : c.code = code) (hr : meth.sig.returnType = ret) (hlocks : meth.locks = false) {pc : Nat} {H : Heap} {ls : Array Slot} (hdg : decode code pc = .ok (.ireturn, 1)) : W p l e room_1 s m #[Value.ref b] below meth c H [] 600000 7302250 (lw_Z below #[Value.ref b] s) (F0 m pc ls [.int 1]) := by
  intro T hT X
  obtain ⟨fs, hret, hrun, hended, hW, hframe⟩ := X.leave (v := some (.int 1)) (hlocks := hlocks) (fun h => by rw [hr] at h; cases h)
  have hmeth' : T.vm.method? m = some meth := X.method'
  refine ⟨T.setFrames fs, ?_, .returned (some (.int 1)), hrun, hended, rfl, ⟨_, rfl⟩, hW, hframe⟩
  jvm_step X.here [X.here.top, hx, hb, hdg, hmeth', hr, ret, narrow_b1]
  (try refine ⟨rfl, ?_⟩); (try refine ⟨rfl, ?_⟩)
  first | (intro acts; rw [hret _ acts rfl rfl rfl]) | rw [hret _ _ rfl rfl rfl]
  exact Steps.refl _
set_option maxHeartbeats 4000000 in
set_option maxRecDepth 10000 in
theorem law_body {p : Program} {l : Launch} {e : Env} {s : State} {m : MethodId} {args : Array Value} {below : List Frame} {meth : Method} {c : Code} {cells slots : Nat} {Q : State → Prop} {D : va_G} {cI cC cS : ClassId} {b L x y : Nat} {xs : Nat → Int32} (C : Cx p s m args meth c cL_law 4 RL wsL_law D (tz cI cC cS) (fun a => s.heap.size ≤ a) ret) (hX : va_X b L xs s s.heap) (hbl : b < s.heap.size) (hL : L ≤ 2560) (hcs : cells ≤ room_1.cells ∧ slots ≤ room_1.slots) {i : Int} {H : Heap} {locs : List Loc} {ls : Array Slot} (hi : 0 ≤ i ∧ i + 5 ≤ L) (hl : lv_has ls 4 [(3, .int (jj i)), (2, .ref y), (1, .ref x), (0, .ref b)]) (h : LH D cI cC cS s x y H locs) (kk : ∀ (H : Heap) (locs : List Loc), LH D cI cC cS s x y H locs → W p l e room_1 s m args below meth c H locs cells slots Q (F0 m 711 ls [])) : W p l e room_1 s m args below meth c H locs cells slots Q (F0 m 26 ls []) := by
  have h0 := h
  obtain ⟨hn, adn, hsn, ads, hh, har, hw, adw, σ, ς, hs, ha, η, dp, τ, kd, am, sd, q, u, ad, σB, α, ςB, β, qB, R, w⟩ := h
  refine q_aload_n C hl dL_law_26 rfl 3 rfl ?_
  refine q_iload_n C hl dL_law_27 rfl 0 rfl ?_
  refine q_sc (j := i) C w hX hbl ⟨by omega, by omega⟩ hL dL_law_28 ?_
  refine q_bipush C dL_law_29 (by decide) ?_
  refine lv_iand C.1 C.2.1 dL_law_31 ?_
  obtain ⟨j, hj, ej⟩ := pk_andE (jj (Xs xs i)) (m := jj 31) 5 (by decide)
  rw [ej, show nI j = jj (j : Int) from jj_ofNat j]
  by_cases c0 : j = 0
  · exact q_tabIn (v := 0) (tgt := 140) C dL_law_32 (by omega) ⟨by omega, by omega⟩ (by omega) (by omega) rfl (by decide) (law_come C hX hbl hL hi hcs hl h0 kk)
  by_cases c1 : j = 1
  · exact q_tabIn (v := 1) (tgt := 183) C dL_law_32 (by omega) ⟨by omega, by omega⟩ (by omega) (by omega) rfl (by decide) (law_leave C hX hbl hL hi hcs hl h0 kk)
  by_cases c2 : j = 2
  · exact q_tabIn (v := 2) (tgt := 206) C dL_law_32 (by omega) ⟨by omega, by omega⟩ (by omega) (by omega) rfl (by decide) (law_letAhead C hX hbl hL hi hcs hl h0 kk)
  by_cases c3 : j = 3
  · exact q_tabIn (v := 3) (tgt := 229) C dL_law_32 (by omega) ⟨by omega, by omega⟩ (by omega) (by omega) rfl (by decide) (law_swap C hX hbl hL hi hcs hl h0 kk)
  by_cases c4 : j = 4
  · exact q_tabIn (v := 4) (tgt := 252) C dL_law_32 (by omega) ⟨by omega, by omega⟩ (by omega) (by omega) rfl (by decide) (law_set C hX hbl hL hi hcs hl h0 kk)
  by_cases c5 : j = 5
  · exact q_tabIn (v := 5) (tgt := 285) C dL_law_32 (by omega) ⟨by omega, by omega⟩ (by omega) (by omega) rfl (by decide) (law_gust C hX hbl hL hi hcs hl h0 kk)
  by_cases c6 : j = 6
  · exact q_tabIn (v := 6) (tgt := 318) C dL_law_32 (by omega) ⟨by omega, by omega⟩ (by omega) (by omega) rfl (by decide) (law_pass C hX hbl hL hi hcs hl h0 kk)
  by_cases c7 : j = 7
  · exact q_tabIn (v := 7) (tgt := 341) C dL_law_32 (by omega) ⟨by omega, by omega⟩ (by omega) (by omega) rfl (by decide) (law_serve C hX hbl hL hi hcs hl h0 kk)
  by_cases c8 : j = 8
  · exact q_tabIn (v := 8) (tgt := 354) C dL_law_32 (by omega) ⟨by omega, by omega⟩ (by omega) (by omega) rfl (by decide) (law_type C hX hbl hL hi hcs hl h0 kk)
  by_cases c9 : j = 9
  · exact q_tabIn (v := 9) (tgt := 379) C dL_law_32 (by omega) ⟨by omega, by omega⟩ (by omega) (by omega) rfl (by decide) (law_clearText C hX hbl hL hi hcs hl h0 kk)
  by_cases c10 : j = 10
  · exact q_tabIn (v := 10) (tgt := 392) C dL_law_32 (by omega) ⟨by omega, by omega⟩ (by omega) (by omega) rfl (by decide) (law_perform C hX hbl hL hi hcs hl h0 kk)
  by_cases c11 : j = 11
  · exact q_tabIn (v := 11) (tgt := 405) C dL_law_32 (by omega) ⟨by omega, by omega⟩ (by omega) (by omega) rfl (by decide) (law_stopped C hX hbl hL hi hcs hl h0 kk)
  by_cases c12 : j = 12
  · exact q_tabIn (v := 12) (tgt := 428) C dL_law_32 (by omega) ⟨by omega, by omega⟩ (by omega) (by omega) rfl (by decide) (law_undo C hX hbl hL hi hcs hl h0 kk)
  by_cases c13 : j = 13
  · exact q_tabIn (v := 13) (tgt := 441) C dL_law_32 (by omega) ⟨by omega, by omega⟩ (by omega) (by omega) rfl (by decide) (law_keep C hX hbl hL hi hcs hl h0 kk)
  by_cases c14 : j = 14
  · exact q_tabIn (v := 14) (tgt := 454) C dL_law_32 (by omega) ⟨by omega, by omega⟩ (by omega) (by omega) rfl (by decide) (law_restore C hX hbl hL hi hcs hl h0 kk)
  by_cases c15 : j = 15
  · exact q_tabIn (v := 15) (tgt := 467) C dL_law_32 (by omega) ⟨by omega, by omega⟩ (by omega) (by omega) rfl (by decide) (law_person C hX hbl hL hi hcs hl h0 kk)
  by_cases c16 : j = 16
  · exact q_tabIn (v := 16) (tgt := 500) C dL_law_32 (by omega) ⟨by omega, by omega⟩ (by omega) (by omega) rfl (by decide) (law_placeOf C hX hbl hL hi hcs hl h0 kk)
  by_cases c17 : j = 17
  · exact q_tabIn (v := 17) (tgt := 523) C dL_law_32 (by omega) ⟨by omega, by omega⟩ (by omega) (by omega) rfl (by decide) (law_ifGust C hX hbl hL hi hcs hl h0 kk)
  by_cases c18 : j = 18
  · exact q_tabIn (v := 18) (tgt := 576) C dL_law_32 (by omega) ⟨by omega, by omega⟩ (by omega) (by omega) rfl (by decide) (law_reason C hX hbl hL hi hcs hl h0 kk)
  by_cases c19 : j = 19
  · exact q_tabIn (v := 19) (tgt := 599) C dL_law_32 (by omega) ⟨by omega, by omega⟩ (by omega) (by omega) rfl (by decide) (law_bestSwap C hX hbl hL hi hcs hl h0 kk)
  by_cases c20 : j = 20
  · exact q_tabIn (v := 20) (tgt := 632) C dL_law_32 (by omega) ⟨by omega, by omega⟩ (by omega) (by omega) rfl (by decide) (law_payer C hX hbl hL hi hcs hl h0 kk)
  by_cases c21 : j = 21
  · exact q_tabIn (v := 21) (tgt := 655) C dL_law_32 (by omega) ⟨by omega, by omega⟩ (by omega) (by omega) rfl (by decide) (law_bears C hX hbl hL hi hcs hl h0 kk)
  by_cases c22 : j = 22
  · exact q_tabIn (v := 22) (tgt := 688) C dL_law_32 (by omega) ⟨by omega, by omega⟩ (by omega) (by omega) rfl (by decide) (law_count C hX hbl hL hi hcs hl h0 kk)
  exact q_tabOut (tgt := 711) C dL_law_32 ⟨by omega, by omega⟩ (Or.inr (by omega)) (by decide) (kk _ _ h0)
set_option maxHeartbeats 4000000 in
set_option maxRecDepth 10000 in
theorem law_loop {p : Program} {l : Launch} {e : Env} {s : State} {m : MethodId} {args : Array Value} {below : List Frame} {meth : Method} {c : Code} {cells slots : Nat} {Q : State → Prop} {D : va_G} {cI cC cS : ClassId} {b L x y : Nat} {xs : Nat → Int32} (C : Cx p s m args meth c cL_law 4 RL wsL_law D (tz cI cC cS) (fun a => s.heap.size ≤ a) ret) (hX : va_X b L xs s s.heap) (hbl : b < s.heap.size) (hL : L ≤ 2560) (hcs : cells ≤ room_1.cells ∧ slots ≤ room_1.slots) (kend : ∀ (H : Heap) (locs : List Loc) (ls : Array Slot), LH D cI cC cS s x y H locs → W p l e room_1 s m args below meth c H locs cells slots Q (F0 m 717 ls [])) : ∀ (n : Nat) (i : Int), 0 ≤ i → i ≤ 2560 → ((L : Int) - i).toNat < n → ∀ (H : Heap) (locs : List Loc) (ls : Array Slot), lv_has ls 4 [(3, .int (jj i)), (2, .ref y), (1, .ref x), (0, .ref b)] → LH D cI cC cS s x y H locs → W p l e room_1 s m args below meth c H locs cells slots Q (F0 m 18 ls []) := by
  intro n
  induction n with
  | zero => intro i _ _ h2; exact absurd h2 (Nat.not_lt_zero _)
  | succ n ih =>
    intro i i0 hb h2 H locs ls hl h
    have h0 := h
    obtain ⟨hn, adn, hsn, ads, hh, har, hw, adw, σ, ς, hs, ha, η, dp, τ, kd, am, sd, q, u, ad, σB, α, ςB, β, qB, R, w⟩ := h
    refine q_iload_n C hl dL_law_18 rfl 0 rfl ?_
    refine q_aload_n C hl dL_law_19 rfl 3 rfl ?_
    refine va_slen C.1 C.2.1 hX hbl (by omega) w.2.2 dL_law_20 ?_
    rw [jj_ofNat L]
    refine q_iconst C dL_law_21 ?_
    refine q_isub C dL_law_22 ?_
    refine q_icmp_gt (tgt := 717) C dL_law_23 (by decide) ⟨by omega, by omega⟩ ⟨by omega, by omega⟩ (fun c1 => kend _ _ _ h0) (fun c1 => ?_)
    refine law_body C hX hbl hL hcs ⟨i0, by omega⟩ hl h0 (fun H locs h => ?_)
    refine q_iinc (lv' := [(3, .int (jj (i + 5))), (2, .ref y), (1, .ref x), (0, .ref b)]) C hl dL_law_711 0 rfl (by decide) rfl (fun ls hl => ?_)
    refine q_goto (tgt := 18) C dL_law_714 (by decide) ?_
    exact ih (i + 5) (by omega) (by omega) (by omega) H locs ls hl h
theorem rl_0 : Rl st0 st0 (fun _ => st0) 0 z0 z0 u0Q st0 z0 z0 q0M :=
  ⟨⟨ag_rf st0_I, st0_I⟩, ⟨by decide, by decide, by decide⟩, ⟨by decide, by decide⟩, fun z => absurd z (by decide), ⟨by decide, by decide, by decide⟩, fun i hi => absurd hi (by omega), ⟨by decide, by decide, by decide⟩, fun x _ _ => ⟨Int.le_refl 0, by show (0 : Int) ≤ 65535; omega⟩, by decide, by decide⟩
set_option maxHeartbeats 4000000 in
set_option maxRecDepth 10000 in
theorem whole_start {p : Program} {e : Env} {s : State} {m : MethodId} {below : List Frame} {meth : Method} {c : Code} (l : Launch) (hflags : l.flags = flags0) {b L : Nat} {xs : Nat → Int32} (hL : L ≤ 2560) (C0 : lw_At p s m meth c b L xs) : W p l e room_1 s m #[Value.ref b] below meth c s.heap [] 0 0 (lw_Z below #[Value.ref b] s) (entryFrame m ([Value.ref b] : List Value).toArray 4) := by
  obtain ⟨D, cI, cC, cS, C⟩ := law_C C0
  obtain ⟨hx, hb, hr, hml, hown, hts, hX, hbl, hlocks, hgv⟩ := C0
  have C : Cx p s m #[Value.ref b] meth c cL_law 4 RL wsL_law D (tz cI cC cS) (fun a => s.heap.size ≤ a) ret := C
  rw [lg_entry_eq]
  have hl := lv_entry (n := 4) [Value.ref b] (Nat.le_of_ble_eq_true rfl)
  revert hl
  generalize ((lg_sl [Value.ref b] ++ List.replicate (4 - (lg_sl [Value.ref b]).length) Slot.unset).toArray) = ls
  intro hl
  have hl : lv_has ls 4 [(0, .ref b)] := hl
  have w : Wd D (fun a => s.heap.size ≤ a) s [] s.heap [] := ⟨vP_iff.mpr (fun q hq => absurd hq List.not_mem_nil), vD_iff.mpr ⟨List.Pairwise.nil, fun q hq => absurd hq List.not_mem_nil⟩, va_S.rf⟩
  refine q_newo (Cn := RX3) (T := TX3) (N := 7) (ci := 3) (fs := zQ) C w inlX3 tyX3 tyX3_ok (List.mem_of_getElem? (i := 0) rfl) (List.mem_of_getElem? (i := 1) rfl) (List.mem_of_getElem? (i := 2) rfl) rfl dfX3 (Nat.le_of_ble_eq_true rfl) (Nat.le_of_ble_eq_true rfl) dL_law_0 (fun x H w => ?_)
  refine q_dup C dL_law_3 rfl ?_
  have w : Wd D (fun a => s.heap.size ≤ a) s ([] ++ [(x, .inr (3, zQ))]) H _ := w
  refine q_runU (ws := [] ++ [(x, .inr (3, zQ))]) (ws2 := fun u : UU => [] ++ uW cI cC cS x u.hn u.adn u.hsn u.ads u.hh u.hu.har u.hw u.adw st0 st0 u.hu.hs u.hu.ha (fun _ => st0) 0 z0 z0 z0 z0 z0 u0Q) C w (fun u => fr_tl) ⟨_, _, fr_tl (w1 := [])⟩ (q_I (rest := [.ref x]) C w fr_tl fX3_init gL_law_X3_init (List.mem_of_getElem? (i := 2) rfl) (List.mem_of_getElem? (i := 6) rfl) (List.mem_of_getElem? (i := 7) rfl) ⟨Nat.le_of_ble_eq_true rfl, Nat.le_of_ble_eq_true rfl⟩ (kX3_init l D cI cC cS x _) rfl hl (Nat.le_of_ble_eq_true rfl) dL_law_4 ⟨Nat.le_of_ble_eq_true rfl, Nat.le_of_ble_eq_true rfl⟩) (fun u H locs w => ?_)
  have w : Wd D (fun a => s.heap.size ≤ a) s (uW cI cC cS x u.hn u.adn u.hsn u.ads u.hh u.hu.har u.hw u.adw st0 st0 u.hu.hs u.hu.ha (fun _ => st0) 0 z0 z0 z0 z0 z0 u0Q) H locs := w
  refine lv_astore_n (lv' := [(1, .ref x), (0, .ref b)]) C.1 C.2.1 dL_law_7 rfl hl (by decide) rfl (fun ls hl => ?_)
  refine q_newo (Cn := RX4) (T := TX4) (N := 16) (ci := 4) (fs := zM) C w inlX4 tyX4 tyX4_ok (List.mem_of_getElem? (i := 3) rfl) (List.mem_of_getElem? (i := 4) rfl) (List.mem_of_getElem? (i := 5) rfl) rfl dfX4 (Nat.le_of_ble_eq_true rfl) (Nat.le_of_ble_eq_true rfl) dL_law_8 (fun y H w => ?_)
  refine q_dup C dL_law_11 rfl ?_
  refine q_runU (ws := uW cI cC cS x u.hn u.adn u.hsn u.ads u.hh u.hu.har u.hw u.adw st0 st0 u.hu.hs u.hu.ha (fun _ => st0) 0 z0 z0 z0 z0 z0 u0Q ++ [(y, .inr (4, zM))]) (ws2 := fun ad : Nat → Nat => uW cI cC cS x u.hn u.adn u.hsn u.ads u.hh u.hu.har u.hw u.adw st0 st0 u.hu.hs u.hu.ha (fun _ => st0) 0 z0 z0 z0 z0 z0 u0Q ++ mW cI y ad st0 (fun _ => 0) (fun _ => 0) (fun _ => 0) (fun _ => 0) q0M) C w (fun u => fr_tl) ⟨_, _, fr_tl (w1 := [])⟩ (q_I (rest := [.ref y]) C w fr_tl fX4_init gL_law_X4_init (List.mem_of_getElem? (i := 5) rfl) (List.mem_of_getElem? (i := 52) rfl) (List.mem_of_getElem? (i := 53) rfl) ⟨Nat.le_of_ble_eq_true rfl, Nat.le_of_ble_eq_true rfl⟩ (kX4_init l D cI cC cS y _) rfl hl (Nat.le_of_ble_eq_true rfl) dL_law_12 ⟨Nat.le_of_ble_eq_true rfl, Nat.le_of_ble_eq_true rfl⟩) (fun ad H locs w => ?_)
  refine lv_astore_n (lv' := [(2, .ref y), (1, .ref x), (0, .ref b)]) C.1 C.2.1 dL_law_15 rfl hl (by decide) rfl (fun ls hl => ?_)
  refine q_iconst C dL_law_16 ?_
  refine q_istore_n (lv' := [(3, .int (jj 0)), (2, .ref y), (1, .ref x), (0, .ref b)]) C hl dL_law_17 rfl (by decide) rfl (fun ls hl => ?_)
  refine law_loop C hX hbl hL ⟨Nat.le_of_ble_eq_true rfl, Nat.le_of_ble_eq_true rfl⟩ (fun H locs ls h => ?_) (L + 1) 0 (by omega) (by omega) (by omega) H locs ls hl (LH.mk w rl_0)
  obtain ⟨hn, adn, hsn, ads, hh, har, hw, adw, σ, ς, hs, ha, η, dp, τ, kd, am, sd, q, u2, ad2, σB, α, ςB, β, qB, R, w⟩ := h
  refine q_iconst C dL_law_717 ?_
  refine va_forget (fun q hq => w.2.2.2.2 q hq) ?_
  refine W.widen (k := 600000) (n := 7302250) (Nat.le_of_ble_eq_true rfl) (Nat.le_of_ble_eq_true rfl) ?_
  rw [show jj 1 = 1 by decide]
  exact lw_ret hx hb hr hlocks dL_law_718
set_option maxHeartbeats 4000000 in
theorem lw_walk (l : Launch) (hflags : l.flags = flags0) (b : Addr) (xs : List Int32) : MetFree l x (headSpec (Jvm.Cond.code x code maxLocals ret :: tables_1) room_1) (lw_P b xs) (fun _ _ _ _ _ => True) lw_Q := by
  refine MetFree.of_bodyS (code := code) (maxLocals := maxLocals) (ret := ret) (by decide) ?_ ?_
  · intro args s m h hn
    obtain ⟨meth, c, h1, h2, h3, h4, h5, h6, -, -⟩ := Cond.code_spec hn (atoms_spec (ws := Jvm.Cond.code x code maxLocals ret :: tables_1) h _ List.mem_cons_self)
    exact ⟨meth, c, h1, h2, h3, h4, h5, h6⟩
  · intro p e s m args below meth c s₁ B hml0 hP _
    obtain ⟨rfl, hx, hbd, hgv⟩ := hP
    obtain ⟨scr, harrAt, hlist, hof, hsmall⟩ := hx
    obtain ⟨hcb, hkn, -, -⟩ := State.arrayAt?_spec harrAt
    have hown : s.vm.findClass R_law = some m.cls := findClass_of_methodNamed B.named
    have hts0 : ∀ c ∈ (Jvm.Cond.code x code maxLocals ret :: tables_1), c.before #[Value.ref b] s = true := atoms_spec (ws := Jvm.Cond.code x code maxLocals ret :: tables_1) B.pre
    have hts : ∀ w ∈ lw_tbl, w.before #[Value.ref b] s = true := k2_hts_sels lw_privs (fun w hw => hts0 w (List.mem_cons_of_mem _ hw)) lw_privs_ok
    have hml : c.maxLocals = 4 := B.maxLocals_eq (hts0 _ List.mem_cons_self)
    have X₀ : Stand p l e room_1 s m #[Value.ref b] below meth c s₁ [] 0 0 := Stand.of_body B
    have hh0 : s₁.heap = s.heap := by rw [B.state]; rfl
    have hsz : scr.slots.size = xs.length := by rw [← Array.length_toList, hlist, List.length_map]
    have hval : ∀ j : Nat, j < xs.length → scr.slots[j]? = some (.int (xs.getD j 0)) := fun j hj => by
      rw [← Array.getElem?_toList, hlist]
      simp [hj]
    have hbl : b < s.heap.size := (Array.getElem?_eq_some_iff.mp hcb).1
    have hX : va_X b xs.length (fun j => xs.getD j 0) s s.heap := ⟨scr, hcb, hof, hkn, hsz, hval⟩
    have K : W p l e room_1 s m #[Value.ref b] below meth c s₁.heap [] 0 0 (lw_Z below #[Value.ref b] s) (entryFrame m ([Value.ref b] : List Value).toArray 4) := by
      rw [hh0]
      exact whole_start l hflags hbd ⟨B.exec, B.bytes, B.returns, hml, hown, hts, hX, hbl, B.notSynchronized, hgv⟩
    obtain ⟨t, a1, o, b1, b2, b3⟩ := K s₁ rfl X₀
    exact ⟨t, o, a1, b1, b2, b3⟩
theorem lw_pre_spec {args : Array Value} {s : State} (h : (Jvm.Cond.and given_1 narrow_1).before args s = true) (hr : rest_1_c.before args s = true) : ∃ (b : Addr) (xs : List Int32), lw_P b xs args s := by
  have hs := flat_of_before _ h
  have hq := flat_of_before _ hr
  have hc : (Cond.count 1).before args s = true := hs _ (by decide +kernel)
  have harr : (Cond.arrayOf (.arg 0) .int).before args s = true := hs _ (by decide +kernel)
  have hle : (Cond.le (.length (.arg 0)) (.int 2560)).before args s = true := hs _ (by decide +kernel)
  have hlen : (Cond.isInt (.length (.arg 0))).before args s = true := hq _ (by decide +kernel)
  have hall : (Cond.all (.arg 0) (.isInt (.elem (.arg 0) (.index 0)))).before args s = true := hq _ (by decide +kernel)
  obtain ⟨b, xs, hb, hx⟩ := State.ints_of_pre rfl harr hlen hall
  have hsm : xs.length < 2 ^ 31 := hx.choose_spec.2.2.2
  have hev : (Term.length (.arg 0)).eval args s none [] s = some (.int xs.length.toInt32) := hx.length_eval hb
  have hv := Cond.le_ints hev (show (Term.int 2560).eval args s none [] s = some (.int 2560) from rfl)
  have hd : xs.length.toInt32 ≤ 2560 := by
    simpa [Cond.before, Cond.holds, hv] using hle
  have hN : xs.length ≤ 2560 := (Int32.ofNat_le_ofNat hsm (by decide)).mp (show Int32.ofNat xs.length ≤ Int32.ofNat 2560 from hd)
  exact ⟨b, xs, Cond.one_arg hc (show args[0]? = some (.ref b) from hb), hx, hN, h⟩
theorem lw_comes (l : Launch) (hflags : l.flags = flags0) : Comes l x (Jvm.Cond.code x code maxLocals ret :: tables_1) room_1 (fun tb e args s => Calls_1 tb e args s ∧ rest_1 tb e args s ∧ Pre_1 tb e args s)
    (fun _ _ args s o t => lw_Q args s o t) := by
  intro p e ha hc hk s m args below hf hfit hheap happ hpre
  obtain ⟨b, xs, hP⟩ := lw_pre_spec hpre.2.2 hpre.2.1
  obtain ⟨k, o, h1, h2, h3, hQ⟩ := lw_walk l hflags b xs p e ha hc hk s m args below hf ((Spec.applies_iff_loose hf).mp happ).1 hP trivial
  exact ⟨k, o, h1, h2, h3, hQ⟩
theorem lw_frame {s t : State} {o : Outcome} {args : Array Value} (h : Framed s o t [] 600000 7302250) :
    Framed s o t (fieldLocs frame_1_writes args s ++ arrayLocs frame_1_arrays args s ++ staticLocs frame_1_statics s) 600000 7302250 := h
theorem lw_limb (L : Cond) (hL : ∀ (args : Array Value) (s t : State), L.after args s (.returned (some (.int 1))) t = true) :
    ArmFor flags0 classFile x code maxLocals ret World_1 tables_1 room_1 Calls_1 rest_1 Pre_1
      (fun tb e a s o t => postC L tb e a s o t ∧ Framed s o t (fieldLocs frame_1_writes a s ++ arrayLocs frame_1_arrays a s ++ staticLocs frame_1_statics s) 600000 7302250) := by
  intro l hflags _ _ p e ha hc hk s m args below hf hfit hheap happ hpre
  obtain ⟨k, o, h1, h2, h3, rfl, hF⟩ := lw_comes l hflags p e ha hc hk s m args below hf hfit hheap happ hpre
  exact ⟨k, _, h1, h2, h3, hL args s _, lw_frame hF⟩
theorem i_vc : Claimed_1_1 ∧ Claimed_1_2 := ⟨lw_limb limb_1_1 (fun args s t => by simp [limb_1_1, Cond.after, Cond.holds, Cond.value]), lw_limb limb_1_2 (fun args s t => Cond.after_iff.mpr (by
  first | (rw [show limb_1_2 = Cond.eq .result (.int 1) from rfl, Cond.eq_ints (x := 1) (y := 1) rfl rfl]; simp; done) | (simp [limb_1_2, Cond.value, Term.eval]; done)))⟩
