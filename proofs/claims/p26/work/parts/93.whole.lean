/-! The law: its loop, its start. -/
def lw_P (b : Addr) (xs : List Int32) (args : Array Value) (s : State) : Prop := args = #[.ref b] ∧ s.IntsAt b xs ∧ xs.length ≤ 260 ∧ (Jvm.Cond.and given_1 narrow_1).before args s = true
def lw_Q (_ : Array Value) (s : State) (o : Outcome) (t : State) : Prop := o = .returned (some (.int 1)) ∧ Framed s o t [] 600000 7302250
def lw_Z (below : List Frame) (a : Array Value) (s : State) : State → Prop := fun t => ∃ o, t.status = .running ∧ Ended t below o ∧ lw_Q a s o t
/-- the law's own end, with 1 on the stack, nothing written that was there before, its room as the claim has it -/
theorem lw_ret {p : Program} {l : Launch} {e : Env} {s : State} {m : MethodId} {below : List Frame} {meth : Method} {c : Code} {b : Nat} (hx : p.tables.exec = Jvm.exec) (hb : c.code = code) (hr : meth.sig.returnType = ret) (hlocks : meth.locks = false) {pc : Nat} {H : Heap} {ls : Array Slot} (hdg : decode code pc = .ok (.ireturn, 1)) : W p l e room_1 s m #[Value.ref b] below meth c H [] 600000 7302250 (lw_Z below #[Value.ref b] s) (F0 m pc ls [.int 1]) := by
  intro T hT X
  obtain ⟨fs, hret, hrun, hended, hW, hframe⟩ := X.leave (v := some (.int 1)) (hlocks := hlocks) (fun h => by rw [hr] at h; cases h)
  have hmeth' : T.vm.method? m = some meth := X.method'
  refine ⟨T.setFrames fs, ?_, .returned (some (.int 1)), hrun, hended, rfl, ⟨_, rfl⟩, hW, hframe⟩
  jvm_step X.here [X.here.top, hx, hb, hdg, hmeth', hr, ret, narrow_b1]
  (try refine ⟨rfl, ?_⟩); (try refine ⟨rfl, ?_⟩)
  first | (intro acts; rw [hret _ acts rfl rfl rfl]) | rw [hret _ _ rfl rfl rfl]
  exact Steps.refl _
set_option maxHeartbeats 4000000 in
set_option maxRecDepth 10000 in
theorem law_loop {pr : Program} {l : Launch} {en : Env} {s : State} {m : MethodId} {args : Array Value} {below : List Frame} {meth : Method} {c : Code} {Q : State → Prop} {D : va_G} {cI cC cS : ClassId} {b L h hn : Nat} {adn : Nat → Nat} {hsn : Nat} {ads : Nat → Nat} {hh har hw : Nat} {adw : Nat → Nat} {ς τ kd am sd q u : Int → Int} {xs : Nat → Int32} {tn : Int} (C : Cx pr s m args meth c cL_law 12 RL wsL_law D (tz cI cC cS) (fun a => s.heap.size ≤ a) ret) (hX : va_X b L xs s s.heap) (hbl : b < s.heap.size) (hL : L ≤ 260) (htn : tn ≤ 34 ∧ 3 * tn ≤ (L : Int)) (kend : ∀ (cells slots : Nat) (H : Heap) (locs : List Loc) (ls : Array Slot) (ws : va_W), cells ≤ 600000 → slots ≤ 7302250 → lv_has ls 12 [(2, .int (jj 1))] → Wd D (fun a => s.heap.size ≤ a) s ws H locs → W pr l en room_1 s m args below meth c H locs cells slots Q (F0 m 325 ls [])) : ∀ (n : Nat) (k : Int) (cells slots : Nat), 0 ≤ k → k ≤ tn → (cells : Int) ≤ 1000 + 2 * k → (slots : Int) ≤ 2000 + 32 * k → (tn - k).toNat < n → ∀ (fa : Int) (σ : Int → Int) (hs : Nat → Nat) (ha : Nat → Nat → Nat) (η : Nat → Int → Int) (dp : Int) (H : Heap) (locs : List Loc) (ls : Array Slot), Jv σ → (0 ≤ dp ∧ dp ≤ 4) → fa = σ 5 + σ 6 → Wd D (fun a => s.heap.size ≤ a) s (uW cI cC cS h hn adn hsn ads hh har hw adw σ ς hs ha η dp τ kd am sd q u) H locs → lv_has ls 12 [(5, .int (jj k)), (4, .int (jj tn)), (3, .int (jj fa)), (2, .int (jj 1)), (1, .ref h), (0, .ref b)] → W pr l en room_1 s m args below meth c H locs cells slots Q (F0 m 65 ls []) := by
  intro n
  induction n with
  | zero => intro k cells slots _ _ _ _ h2; exact absurd h2 (Nat.not_lt_zero _)
  | succ n ih =>
    intro k cells slots k0 k1 hc hsl h2 fa σ hs ha η dp H locs ls bJ bdp hfa w hl
    refine q_iload C hl dL_law_65 0 rfl ?_
    refine q_iload C hl dL_law_67 1 rfl ?_
    refine q_icmp_ge (tgt := 325) C dL_law_69 (by decide) ⟨by omega, by omega⟩ ⟨by omega, by omega⟩ (fun c1 => ?_) (fun c1 => ?_)
    · exact kend cells slots H locs ls _ (by omega) (by omega) (lv_sub hl [3] rfl) w
    · refine law_round (tn := tn) (k := k) (fa := fa) C hX hbl hL ⟨by show cells ≤ 600000; omega, by show slots ≤ 7302250; omega⟩ ⟨by show cells + 2 ≤ 600000; omega, by show slots + 32 ≤ 7302250; omega⟩ ⟨k0, c1, htn.1, htn.2⟩ bJ bdp hfa hl w (fun H locs ls fa' σ' hs' ha' η' dp' bJ' bdp' hfa' w' hl' => ?_)
      exact ih (k + 1) (cells + 2) (slots + 32) (by omega) (by omega) (by omega) (by omega) (by omega) fa' σ' hs' ha' η' dp' H locs ls bJ' bdp' hfa' w' hl'
set_option maxHeartbeats 8000000 in
set_option maxRecDepth 10000 in
theorem law_go {pr : Program} {l : Launch} {en : Env} {s : State} {m : MethodId} {args : Array Value} {below : List Frame} {meth : Method} {c : Code} {Q : State → Prop} {D : va_G} {cI cC cS : ClassId} {b L h hn : Nat} {adn : Nat → Nat} {hsn : Nat} {ads : Nat → Nat} {hh har hw : Nat} {adw : Nat → Nat} {ς τ kd am sd q u : Int → Int} {xs : Nat → Int32} {cells slots : Nat} {σ : Int → Int} {hs : Nat → Nat} {ha : Nat → Nat → Nat} {η : Nat → Int → Int} {dp : Int} {H : Heap} {locs : List Loc} {ls : Array Slot} (C : Cx pr s m args meth c cL_law 12 RL wsL_law D (tz cI cC cS) (fun a => s.heap.size ≤ a) ret) (hX : va_X b L xs s s.heap) (hbl : b < s.heap.size) (hL : L ≤ 260) (hcs : cells ≤ room_1.cells ∧ slots ≤ room_1.slots) (hc1 : cells ≤ 1000) (hc2 : slots ≤ 2000) (bJ : Jv σ) (hdp0 : dp = 0) (hu4 : u 4 = 0) (hs0 : 0 ≤ ς 0 ∧ ς 0 ≤ 16) (hf0 : 0 = σ 5 + σ 6) (kend : ∀ (cells slots : Nat) (H : Heap) (locs : List Loc) (ls : Array Slot) (ws : va_W), cells ≤ 600000 → slots ≤ 7302250 → lv_has ls 12 [(2, .int (jj 1))] → Wd D (fun a => s.heap.size ≤ a) s ws H locs → W pr l en room_1 s m args below meth c H locs cells slots Q (F0 m 325 ls [])) (hl : lv_has ls 12 [(1, .ref h), (0, .ref b)]) (w : Wd D (fun a => s.heap.size ≤ a) s (uW cI cC cS h hn adn hsn ads hh har hw adw σ ς hs ha η dp τ kd am sd q u) H locs) : W pr l en room_1 s m args below meth c H locs cells slots Q (F0 m 8 ls []) := by
  have bdp : 0 ≤ dp ∧ dp ≤ 4 := by omega
  refine q_aload_n C hl dL_law_8 rfl 0 rfl ?_
  refine q_iconst C dL_law_9 ?_
  refine q_runi C w fr_all (q_S (As := [.ref h, .int (jj 5)]) (rest := []) C w fr_all fL_holds gL_law_L_holds ⟨Nat.le_of_ble_eq_true rfl, Nat.le_of_ble_eq_true rfl⟩ (kL_holds l D cI cC cS h hn adn hsn ads hh har hw adw σ ς hs ha η dp τ kd am sd q u 5 bJ _) rfl rfl hl (Nat.le_of_ble_eq_true rfl) dL_law_10 hcs) (fun H locs w => ?_)
  refine q_ifz_eq (tgt := 38) C dL_law_13 (by decide) (fun z => absurd trivial z) (fun _ => ?_)
  refine q_aload_n C hl dL_law_16 rfl 0 rfl ?_
  refine q_runi C w fr_all (q_V (As := []) (rest := []) C w fr_all fX3_undo gL_law_X3_undo rfl ⟨Nat.le_of_ble_eq_true rfl, Nat.le_of_ble_eq_true rfl⟩ (kX3_undo l D cI cC cS h hn adn hsn ads hh har hw adw σ ς hs ha η dp τ kd am sd q u  bdp _) (q0 := 0) rfl rfl rfl rfl hl (Nat.le_of_ble_eq_true rfl) dL_law_17 hcs) (fun H locs w => ?_)
  rw [show (if dp = 0 then 0 else dp - 1) = dp from (by rw [if_pos hdp0, hdp0]), if_pos hdp0] at w
  rw [show (if dp = 0 then -5 else dp - 1) = (-5) from if_pos hdp0]
  refine q_bipush C dL_law_20 (by decide) ?_
  refine q_icmpN (tgt := 38) C dL_law_22 (by decide) rfl ?_
  refine q_aload_n C hl dL_law_25 rfl 0 rfl ?_
  refine q_runi C w fr_all (q_V (As := []) (rest := []) C w fr_all fX3_restore gL_law_X3_restore rfl ⟨Nat.le_of_ble_eq_true rfl, Nat.le_of_ble_eq_true rfl⟩ (kX3_restore l D cI cC cS h hn adn hsn ads hh har hw adw σ ς hs ha η dp τ kd am sd q u  bdp ⟨by omega, by omega⟩ hs0 _) (q0 := 0) rfl rfl rfl rfl hl (Nat.le_of_ble_eq_true rfl) dL_law_26 hcs) (fun H locs w => ?_)
  rw [if_pos hu4, if_pos hu4, if_pos hu4, if_pos hu4, if_pos hu4] at w
  rw [show (if u 4 = 0 then -5 else ς 0) = (-5) from if_pos hu4]
  refine q_bipush C dL_law_29 (by decide) ?_
  refine q_icmpN (tgt := 38) C dL_law_31 (by decide) rfl ?_
  refine q_iconst C dL_law_34 ?_
  refine q_goto (tgt := 39) C dL_law_35 (by decide) ?_
  refine q_istore_n (lv' := [(2, .int (jj 1)), (1, .ref h), (0, .ref b)]) C hl dL_law_39 rfl (by decide) rfl (fun ls hl => ?_)
  refine q_iconst C dL_law_40 ?_
  refine q_istore_n (lv' := [(3, .int (jj 0)), (2, .int (jj 1)), (1, .ref h), (0, .ref b)]) C hl dL_law_41 rfl (by decide) rfl (fun ls hl => ?_)
  have join60 : ∀ (tn : Int), (0 ≤ tn ∧ tn ≤ 34 ∧ 3 * tn ≤ (L : Int)) →  ∀ (H : Heap) (locs : List Loc), Wd D (fun a => s.heap.size ≤ a) s (uW cI cC cS h hn adn hsn ads hh har hw adw σ ς hs ha η dp τ kd am sd q u) H locs → ∀ ls : Array Slot, lv_has ls 12 [(0, .ref b), (1, .ref h), (2, .int (jj 1)), (3, .int (jj 0))] → W pr l en room_1 s m args below meth c H locs cells slots Q (F0 m 60 ls [.int (jj tn)]) := by
    intro tn htn H locs w ls hl
    refine q_istore (lv' := [(4, .int (jj tn)), (0, .ref b), (1, .ref h), (2, .int (jj 1)), (3, .int (jj 0))]) C hl dL_law_60 (by decide) rfl (fun ls hl => ?_)
    refine q_iconst C dL_law_62 ?_
    refine q_istore (lv' := [(5, .int (jj 0)), (4, .int (jj tn)), (0, .ref b), (1, .ref h), (2, .int (jj 1)), (3, .int (jj 0))]) C hl dL_law_63 (by decide) rfl (fun ls hl => ?_)
    exact law_loop C hX hbl hL htn.2 kend 100 0 cells slots (by omega) htn.1 (by omega) (by omega) (by omega) 0 σ hs ha η dp _ _ ls bJ bdp hf0 w (lv_sub hl [0, 1, 5, 4, 3, 2] rfl)
  refine q_aload_n C hl dL_law_42 rfl 3 rfl ?_
  refine va_slen C.1 C.2.1 hX hbl (by omega) w.2.2 dL_law_43 ?_
  rw [jj_ofNat L]
  refine q_iconst C dL_law_44 ?_
  refine q_idiv C dL_law_45 ⟨by omega, by omega⟩ ⟨by omega, by omega⟩ ?_
  refine q_bipush C dL_law_46 (by decide) ?_
  refine q_icmp_le (tgt := 56) C dL_law_48 (by decide) ⟨by omega, by omega⟩ ⟨by omega, by omega⟩ (fun c2 => ?_) (fun c2 => ?_)
  · have c2 := c2
    refine q_aload_n C hl dL_law_56 rfl 3 rfl ?_
    refine va_slen C.1 C.2.1 hX hbl (by omega) w.2.2 dL_law_57 ?_
    rw [jj_ofNat L]
    refine q_iconst C dL_law_58 ?_
    refine q_idiv C dL_law_59 ⟨by omega, by omega⟩ ⟨by omega, by omega⟩ ?_
    exact join60 ((L : Int) / 3) (by omega) _ _ w ls (lv_sub hl [3, 2, 1, 0] rfl)
  · have c2 := c2
    refine q_bipush C dL_law_51 (by decide) ?_
    refine q_goto (tgt := 60) C dL_law_53 (by decide) ?_
    exact join60 34 (by omega) _ _ w ls (lv_sub hl [3, 2, 1, 0] rfl)
set_option maxHeartbeats 4000000 in
set_option maxRecDepth 10000 in
theorem whole_start {p : Program} {e : Env} {s : State} {m : MethodId} {below : List Frame} {meth : Method} {c : Code} (l : Launch) (hflags : l.flags = flags0) {b L : Nat} {xs : Nat → Int32} (hL : L ≤ 260) (C0 : lw_At p s m meth c b L xs) : W p l e room_1 s m #[Value.ref b] below meth c s.heap [] 0 0 (lw_Z below #[Value.ref b] s) (entryFrame m ([Value.ref b] : List Value).toArray 12) := by
  obtain ⟨D, cI, cC, cS, C⟩ := law_C C0
  obtain ⟨hx, hb, hr, hml, hown, hts, hX, hbl, hlocks, hgv⟩ := C0
  have C : Cx p s m #[Value.ref b] meth c cL_law 12 RL wsL_law D (tz cI cC cS) (fun a => s.heap.size ≤ a) ret := C
  rw [lg_entry_eq]
  have hl := lv_entry (n := 12) [Value.ref b] (Nat.le_of_ble_eq_true rfl)
  revert hl
  generalize ((lg_sl [Value.ref b] ++ List.replicate (12 - (lg_sl [Value.ref b]).length) Slot.unset).toArray) = ls
  intro hl
  have hl : lv_has ls 12 [(0, .ref b)] := hl
  have w : Wd D (fun a => s.heap.size ≤ a) s [] s.heap [] := ⟨vP_iff.mpr (fun q hq => absurd hq List.not_mem_nil), vD_iff.mpr ⟨List.Pairwise.nil, fun q hq => absurd hq List.not_mem_nil⟩, va_S.rf⟩
  refine q_newo (Cn := RX3) (T := TX3) (N := 7) (ci := 3) (fs := zQ) C w inlX3 tyX3 tyX3_ok (List.mem_of_getElem? (i := 0) rfl) (List.mem_of_getElem? (i := 1) rfl) (List.mem_of_getElem? (i := 2) rfl) rfl dfX3 (Nat.le_of_ble_eq_true rfl) (Nat.le_of_ble_eq_true rfl) dL_law_0 (fun x H w => ?_)
  refine q_dup C dL_law_3 rfl ?_
  have w : Wd D (fun a => s.heap.size ≤ a) s ([] ++ [(x, .inr (3, zQ))]) H _ := w
  refine q_runU (ws := [] ++ [(x, .inr (3, zQ))]) (ws2 := fun u : UU => [] ++ uW cI cC cS x u.hn u.adn u.hsn u.ads u.hh u.hu.har u.hw u.adw st0 st0 u.hu.hs u.hu.ha (fun _ => st0) 0 z0 z0 z0 z0 z0 u0Q) C w (fun u => fr_tl) ⟨_, _, fr_tl (w1 := [])⟩ (q_I (rest := [.ref x]) C w fr_tl fX3_init gL_law_X3_init (List.mem_of_getElem? (i := 2) rfl) (List.mem_of_getElem? (i := 3) rfl) (List.mem_of_getElem? (i := 4) rfl) ⟨Nat.le_of_ble_eq_true rfl, Nat.le_of_ble_eq_true rfl⟩ (kX3_init l D cI cC cS x _) rfl hl (Nat.le_of_ble_eq_true rfl) dL_law_4 ⟨Nat.le_of_ble_eq_true rfl, Nat.le_of_ble_eq_true rfl⟩) (fun u H locs w => ?_)
  have w : Wd D (fun a => s.heap.size ≤ a) s (uW cI cC cS x u.hn u.adn u.hsn u.ads u.hh u.hu.har u.hw u.adw st0 st0 u.hu.hs u.hu.ha (fun _ => st0) 0 z0 z0 z0 z0 z0 u0Q) H locs := w
  refine lv_astore_n (lv' := [(1, .ref x), (0, .ref b)]) C.1 C.2.1 dL_law_7 rfl hl (by decide) rfl (fun ls hl => ?_)
  refine law_go C hX hbl hL ⟨Nat.le_of_ble_eq_true rfl, Nat.le_of_ble_eq_true rfl⟩ (Nat.le_of_ble_eq_true rfl) (Nat.le_of_ble_eq_true rfl) st0_J rfl rfl ⟨by decide, by decide⟩ (by decide) (fun cells slots H locs ls ws hc hs hl w => ?_) hl w
  refine q_iload_n C hl dL_law_325 rfl 0 rfl ?_
  refine va_forget (fun q hq => w.2.2.2.2 q hq) ?_
  refine W.widen (k := 600000) (n := 7302250) hc hs ?_
  rw [show jj 1 = 1 by decide]
  exact lw_ret hx hb hr hlocks dL_law_326
set_option maxHeartbeats 4000000 in
theorem lw_walk (l : Launch) (hflags : l.flags = flags0) (b : Addr) (xs : List Int32) : MetFree l x (headSpec (Jvm.Cond.code x code maxLocals ret :: tables_1) room_1) (lw_P b xs) (fun _ _ _ _ _ => True) lw_Q := by
  refine MetFree.of_bodyS (code := code) (maxLocals := maxLocals) (ret := ret) (by decide) ?_ ?_
  · intro args s m h hn
    obtain ⟨meth, c, h1, h2, h3, h4, h5, h6, -, -⟩ := Cond.code_spec hn (atoms_spec (ws := Jvm.Cond.code x code maxLocals ret :: tables_1) h _ List.mem_cons_self)
    exact ⟨meth, c, h1, h2, h3, h4, h5, h6⟩
  · intro p e s m args below meth c s₁ B hml0 hP _
    obtain ⟨rfl, hx, hbd, hgv⟩ := hP
    obtain ⟨scr, harrAt, hlist, hof, hsmall⟩ := hx
    obtain ⟨hcb, hkn, -, -⟩ := State.arrayAt?_spec harrAt
    have hown : s.vm.findClass R_law = some m.cls := findClass_of_methodNamed B.named
    have hts0 : ∀ c ∈ (Jvm.Cond.code x code maxLocals ret :: tables_1), c.before #[Value.ref b] s = true := atoms_spec (ws := Jvm.Cond.code x code maxLocals ret :: tables_1) B.pre
    have hts : ∀ w ∈ lw_tbl, w.before #[Value.ref b] s = true := k2_hts_sels lw_privs (fun w hw => hts0 w (List.mem_cons_of_mem _ hw)) lw_privs_ok
    have hml : c.maxLocals = 12 := B.maxLocals_eq (hts0 _ List.mem_cons_self)
    have X₀ : Stand p l e room_1 s m #[Value.ref b] below meth c s₁ [] 0 0 := Stand.of_body B
    have hh0 : s₁.heap = s.heap := by rw [B.state]; rfl
    have hsz : scr.slots.size = xs.length := by rw [← Array.length_toList, hlist, List.length_map]
    have hval : ∀ j : Nat, j < xs.length → scr.slots[j]? = some (.int (xs.getD j 0)) := fun j hj => by
      rw [← Array.getElem?_toList, hlist]
      simp [hj]
    have hbl : b < s.heap.size := (Array.getElem?_eq_some_iff.mp hcb).1
    have hX : va_X b xs.length (fun j => xs.getD j 0) s s.heap := ⟨scr, hcb, hof, hkn, hsz, hval⟩
    have K : W p l e room_1 s m #[Value.ref b] below meth c s₁.heap [] 0 0 (lw_Z below #[Value.ref b] s) (entryFrame m ([Value.ref b] : List Value).toArray 12) := by
      rw [hh0]
      exact whole_start l hflags hbd ⟨B.exec, B.bytes, B.returns, hml, hown, hts, hX, hbl, B.notSynchronized, hgv⟩
    obtain ⟨t, a1, o, b1, b2, b3⟩ := K s₁ rfl X₀
    exact ⟨t, o, a1, b1, b2, b3⟩
theorem lw_pre_spec {args : Array Value} {s : State} (h : (Jvm.Cond.and given_1 narrow_1).before args s = true) (hr : rest_1_c.before args s = true) : ∃ (b : Addr) (xs : List Int32), lw_P b xs args s := by
  have hs := flat_of_before _ h
  have hq := flat_of_before _ hr
  have hc : (Cond.count 1).before args s = true := hs _ (by decide +kernel)
  have harr : (Cond.arrayOf (.arg 0) .int).before args s = true := hs _ (by decide +kernel)
  have hle : (Cond.le (.length (.arg 0)) (.int 260)).before args s = true := hs _ (by decide +kernel)
  have hlen : (Cond.isInt (.length (.arg 0))).before args s = true := hq _ (by decide +kernel)
  have hall : (Cond.all (.arg 0) (.isInt (.elem (.arg 0) (.index 0)))).before args s = true := hq _ (by decide +kernel)
  obtain ⟨b, xs, hb, hx⟩ := State.ints_of_pre rfl harr hlen hall
  have hsm : xs.length < 2 ^ 31 := hx.choose_spec.2.2.2
  have hev : (Term.length (.arg 0)).eval args s none [] s = some (.int xs.length.toInt32) := hx.length_eval hb
  have hv := Cond.le_ints hev (show (Term.int 260).eval args s none [] s = some (.int 260) from rfl)
  have hd : xs.length.toInt32 ≤ 260 := by
    simpa [Cond.before, Cond.holds, hv] using hle
  have hN : xs.length ≤ 260 := (Int32.ofNat_le_ofNat hsm (by decide)).mp (show Int32.ofNat xs.length ≤ Int32.ofNat 260 from hd)
  exact ⟨b, xs, Cond.one_arg hc (show args[0]? = some (.ref b) from hb), hx, hN, h⟩
theorem lw_comes (l : Launch) (hflags : l.flags = flags0) : Comes l x (Jvm.Cond.code x code maxLocals ret :: tables_1) room_1 (fun tb e args s => Calls_1 tb e args s ∧ rest_1 tb e args s ∧ Pre_1 tb e args s)
    (fun _ _ args s o t => lw_Q args s o t) := by
  intro p e ha hc hk s m args below hf hfit hheap happ hpre
  obtain ⟨b, xs, hP⟩ := lw_pre_spec hpre.2.2 hpre.2.1
  obtain ⟨k, o, h1, h2, h3, hQ⟩ := lw_walk l hflags b xs p e ha hc hk s m args below hf ((Spec.applies_iff_loose hf).mp happ).1 hP trivial
  exact ⟨k, o, h1, h2, h3, hQ⟩
theorem lw_frame {s t : State} {o : Outcome} {args : Array Value} (h : Framed s o t [] 600000 7302250) :
    Framed s o t (fieldLocs frame_1_writes args s ++ arrayLocs frame_1_arrays args s ++ staticLocs frame_1_statics s) 600000 7302250 := h
theorem lw_limb (L : Cond) (hL : ∀ (args : Array Value) (s t : State), L.after args s (.returned (some (.int 1))) t = true) :
    ArmFor flags0 classFile x code maxLocals ret World_1 tables_1 room_1 Calls_1 rest_1 Pre_1
      (fun tb e a s o t => postC L tb e a s o t ∧ Framed s o t (fieldLocs frame_1_writes a s ++ arrayLocs frame_1_arrays a s ++ staticLocs frame_1_statics s) 600000 7302250) := by
  intro l hflags _ _ p e ha hc hk s m args below hf hfit hheap happ hpre
  obtain ⟨k, o, h1, h2, h3, rfl, hF⟩ := lw_comes l hflags p e ha hc hk s m args below hf hfit hheap happ hpre
  exact ⟨k, _, h1, h2, h3, hL args s _, lw_frame hF⟩
theorem i_vc : Claimed_1_1 ∧ Claimed_1_2 := ⟨lw_limb limb_1_1 (fun args s t => by simp [limb_1_1, Cond.after, Cond.holds, Cond.value]), lw_limb limb_1_2 (fun args s t => Cond.after_iff.mpr (by
  first | (rw [show limb_1_2 = Cond.eq .result (.int 1) from rfl, Cond.eq_ints (x := 1) (y := 1) rfl rfl]; simp; done) | (simp [limb_1_2, Cond.value, Term.eval]; done)))⟩
