/-! The makers of History and the class. -/
theorem dfX1 : ∀ j, j < 17 → defaultValue (tyX1 j) = vp_V zS j := by
  intro j hj
  have : j = 0 ∨ j = 1 ∨ j = 2 ∨ j = 3 ∨ j = 4 ∨ j = 5 ∨ j = 6 ∨ j = 7 ∨ j = 8 ∨ j = 9 ∨ j = 10 ∨ j = 11 ∨ j = 12 ∨ j = 13 ∨ j = 14 ∨ j = 15 ∨ j = 16 := by omega
  rcases this with rfl | rfl | rfl | rfl | rfl | rfl | rfl | rfl | rfl | rfl | rfl | rfl | rfl | rfl | rfl | rfl | rfl <;> rfl
def zH : List Value := [.null, .int (jj 0)]
theorem dfX0 : ∀ j, j < 2 → defaultValue (tyX0 j) = vp_V zH j := by
  intro j hj
  have : j = 0 ∨ j = 1 := by omega
  rcases this with rfl | rfl <;> rfl
theorem dfX2 : ∀ j, j < 7 → defaultValue (tyX2 j) = vp_V zT j := by
  intro j hj
  have : j = 0 ∨ j = 1 ∨ j = 2 ∨ j = 3 ∨ j = 4 ∨ j = 5 ∨ j = 6 := by omega
  rcases this with rfl | rfl | rfl | rfl | rfl | rfl | rfl <;> rfl
def zQ : List Value := [.null, .null, .null, .null, .int (jj 0), .int (jj 0), .int (jj 0)]
theorem dfX3 : ∀ j, j < 7 → defaultValue (tyX3 j) = vp_V zQ j := by
  intro j hj
  have : j = 0 ∨ j = 1 ∨ j = 2 ∨ j = 3 ∨ j = 4 ∨ j = 5 ∨ j = 6 := by omega
  rcases this with rfl | rfl | rfl | rfl | rfl | rfl | rfl <;> rfl
/-- a row of references, by a list -/
def rL (bs : List Nat) : Nat → Option Nat := fun k => bs[k]?
abbrev rE (cS : ClassId) (bs : List Nat) : va_E := .inl (cS, 5, .inr (.inr (.inr (.inr (rL bs)))))
def aL (bs : List Nat) : Nat → Nat := fun k => (bs[k]?).getD 0
def aLL (bs : List (Nat → Nat)) : Nat → Nat → Nat := fun k => (bs[k]?).getD (fun _ => 0)
theorem wd_row {D : va_G} {A : Nat → Prop} {s : State} {H : Heap} {locs : List Loc} {x : Nat × va_E} {har : Nat} {cS : ClassId} {f g : Nat → Option Nat} {b : va_W} (hfg : ∀ k : Nat, k < 5 → f k = g k) (w : Wd D A s (x :: (har, .inl (cS, 5, .inr (.inr (.inr (.inr f))))) :: b) H locs) : Wd D A s (x :: (har, .inl (cS, 5, .inr (.inr (.inr (.inr g))))) :: b) H locs := by
  refine ⟨vP_iff.mpr (fun q hq => ?_), vD_map (by rfl) w.2.1, w.2.2⟩
  rcases List.mem_cons.mp hq with h | h
  · exact vP_iff.mp w.1 q (h ▸ List.mem_cons_self)
  · rcases List.mem_cons.mp h with h | h
    · rw [h]; exact at_refs hfg (vP_iff.mp w.1 _ (List.mem_cons_of_mem _ List.mem_cons_self))
    · exact vP_iff.mp w.1 q (List.mem_cons_of_mem _ (List.mem_cons_of_mem _ h))
section QN
variable {p : Program} {l : Launch} {e : Env} {R : Room} {s : State} {m : MethodId} {args : Array Value} {below : List Frame} {meth : Method} {c : Code} {H : Heap} {locs : List Loc} {cells slots : Nat} {Q : State → Prop}
variable {cc : ByteArray} {nL : Nat} {own : String} {Ts : List Cond} {D : va_G} {tys : List (ClassId × FieldType)} {A : Nat → Prop} {ret : Option FieldType} {pc : Nat} {ls : Array Slot} {rest : List Value} {ws ws' b : va_W} {cI cC cS : ClassId}
theorem q_newq {n : Int} {N index : Nat} (C : Cx p s m args meth c cc nL own Ts D (tz cI cC cS) A ret) (w : Wd D A s ws H locs) (hlink : Cond.classLink own index RX1 ∈ Ts) (hn : n = (N : Int)) (hN : N ≤ 1000) (hcells : cells + 1 ≤ R.cells) (hslots : slots + N ≤ R.slots) (hdg : decode cc pc = .ok (.anewarray index, 3))
    (kk : ∀ (q : Nat) (H1 : Heap), Wd D A s (ws ++ [(q, .inl (cS, N, .inr (.inr (.inr (.inr (fun _ => none))))))]) H1 locs → W p l e R s m args below meth c H1 locs (cells + 1) (slots + N) Q (F0 m (pc + 3) ls (.ref q :: rest))) : W p l e R s m args below meth c H locs cells slots Q (F0 m pc ls (.int (jj n) :: rest)) := by
  have hc := jj_cl (i := n) (by omega) (by omega)
  refine va_newq (C := RX1) (N' := N) C.1 C.2.1 C.ho (C.ts _ hlink) C.N.1.2 C.K w.1 w.2.1 w.2.2 C.hA (fun hh => ?_) (by omega) (by omega) hcells hslots hdg (fun q cA H1 hK1 hP hD hS => ?_)
  · have := (jj_lt (a := n) (b := 0) (by omega) (by omega) (by omega) (by omega)).mp hh
    omega
  · obtain ⟨_, _, _, _, _, e1⟩ := (hK1.2 2 (cS, .object RX1) rfl).2
    obtain ⟨_, _, _, _, _, e2⟩ := (hK1.2 3 (cA, .object RX1) rfl).2
    have e3 : cS = cA := Option.some.inj (e1.symm.trans e2)
    subst e3
    exact kk q H1 ⟨hP, hD, hS⟩
theorem q_rst {x : Nat × va_E} {har v qk : Nat} {vs : List Value} {bs : List Nat} {i : Int} (C : Cx p s m args meth c cc nL own Ts D (tz cI cC cS) A ret) (w : Wd D A s (x :: (har, rE cS bs) :: b) H locs) (hi : i = (bs.length : Int)) (hi5 : bs.length < 5) (hv : (x :: (har, rE cS bs) :: b)[qk]? = some (v, .inr (1, vs))) (hdg : decode cc pc = .ok (.aastore, 1))
    (kk : ∀ (H1 : Heap) (locs1 : List Loc), Wd D A s (x :: (har, rE cS (bs ++ [v])) :: b) H1 locs1 → W p l e R s m args below meth c H1 locs1 cells slots Q (F0 m (pc + 1) ls rest)) : W p l e R s m args below meth c H locs cells slots Q (F0 m pc ls (.ref v :: .int (jj i) :: .ref har :: rest)) := by
  have e1 := jj_cl (i := i) (by omega) (by omega)
  have e2 : (jj i).toNatClampNeg = bs.length := by omega
  refine va_astq (r := (RX1, TX1, 17)) (ci := 1) (f := rL bs) C.1 C.2.1 C.K w.1 w.2.1 w.2.2 1 2 qk rfl rfl hv rfl (jj_in (by omega) (by omega) (by omega)) hdg (fun H1 locs1 hP hD hS => ?_)
  have e3 : va_up (rL bs) (jj i).toNatClampNeg (some v) = rL (bs ++ [v]) := by
    funext j; unfold va_up rL
    rw [e2]
    by_cases c : j = bs.length
    · rw [if_pos c, c]; simp
    · rw [if_neg c]
      by_cases c2 : j < bs.length
      · rw [List.getElem?_append_left c2]
      · rw [List.getElem?_eq_none (by omega), List.getElem?_eq_none (by simp; omega)]
  rw [e3] at hP hD
  exact kk H1 locs1 ⟨hP, hD, hS⟩
end QN
abbrev HH : Type := Nat × (Nat → Nat) × (Nat → Nat → Nat)
abbrev HH.har (a : HH) : Nat := a.1
abbrev HH.hs (a : HH) : Nat → Nat := a.2.1
abbrev HH.ha (a : HH) : Nat → Nat → Nat := a.2.2
abbrev UU : Type := Nat × (Nat → Nat) × Nat × (Nat → Nat) × Nat × HH × Nat × (Nat → Nat)
abbrev UU.hn (a : UU) : Nat := a.1
abbrev UU.adn (a : UU) : Nat → Nat := a.2.1
abbrev UU.hsn (a : UU) : Nat := a.2.2.1
abbrev UU.ads (a : UU) : Nat → Nat := a.2.2.2.1
abbrev UU.hh (a : UU) : Nat := a.2.2.2.2.1
abbrev UU.hu (a : UU) : HH := a.2.2.2.2.2.1
abbrev UU.hw (a : UU) : Nat := a.2.2.2.2.2.2.1
abbrev UU.adw (a : UU) : Nat → Nat := a.2.2.2.2.2.2.2
abbrev z0 : Int → Int := fun _ => 0
def u0Q : Int → Int := fun k => if k = 5 then -5 else if k = 6 then -5 else 0
def rX0_init : Room := { frames := 2, cells := 41, slots := 585, locals := 44 }
theorem fX0_init : Fn yX0_init wsX0_init rX0_init cX0_init 2 41 585 := ⟨⟨_, rfl⟩, rfl, rfl, by decide +kernel, by decide +kernel, by decide +kernel, rfl⟩
set_option maxHeartbeats 4000000 in
set_option maxRecDepth 10000 in
theorem kX0_init (l : Launch) (D : va_G) (cI cC cS : ClassId) (h : Nat) : Kn l yX0_init wsX0_init rX0_init D (tz cI cC cS) [.ref h] [(h, .inr (0, zH))] (fun ad : HH => hW cI cS h ad.har ad.hs ad.ha (fun _ => st0) 0) 41 585 := by
  intro sz
  refine q_entry (y := yX0_init) (av := [.ref h]) (w0 := [(h, .inr (0, zH))]) (Qf := fun A => va_Qv (fun _ : HH => True) (fun ad t => bW D (tz cI cC cS) A (hW cI cS h ad.har ad.hs ad.ha (fun _ => st0) 0) t) A) (cc := cX0_init) (nL := 2) (ret := none) (by decide) ⟨_, rfl⟩ (Nat.le_of_ble_eq_true rfl) ?_ sz
  intro A pr en s m args below meth c C hin0 w ls hl
  have hnm := hin0 rfl
  have w := w
  have hl : lv_has ls 2 [(0, .ref h)] := hl
  refine q_aload_n C hl dX0_init_0 rfl 0 rfl ?_
  refine q_objInit C hl (List.mem_of_getElem? (i := 1) rfl) (List.mem_of_getElem? (i := 2) rfl) (List.mem_of_getElem? (i := 3) rfl) (Nat.le_of_ble_eq_true rfl) (Nat.le_of_ble_eq_true rfl) (Nat.le_of_ble_eq_true rfl) dX0_init_1 ?_
  refine q_aload_n C hl dX0_init_4 rfl 0 rfl ?_
  refine q_iconst C dX0_init_5 ?_
  refine q_newq (N := 5) C w (List.mem_of_getElem? (i := 4) rfl) rfl (by decide) (Nat.le_of_ble_eq_true rfl) (Nat.le_of_ble_eq_true rfl) dX0_init_6 (fun har H w => ?_)
  have w : Wd D A s ((h, .inr (0, zH)) :: (har, .inl (cS, 5, .inr (.inr (.inr (.inr (fun _ => none)))))) :: []) H _ := w
  have w : Wd D A s ((h, .inr (0, zH)) :: (har, rE cS []) :: []) H _ := wd_row (fun k _ => rfl) w
  refine q_putF (Cn := RX0) (T := TX0) (N := 2) (ci := 0) (ws' := (h, .inr (0, [.ref har, .int (jj 0)])) :: (har, rE cS []) :: []) C hnm w (fun w h => List.mem_cons_of_mem _ (List.mem_append_left _ (List.mem_append_right _ h))) tyX0 tyX0_ok nmX0 0 rfl rfl 0 (by decide) (List.mem_of_getElem? (i := 5) rfl) rfl rfl (tyX0_ok 0 (by decide)) rfl rfl (Nat.le_of_ble_eq_true rfl) dX0_init_9 rfl (fun H locs w => ?_)
  refine q_iconst C dX0_init_12 ?_
  refine q_istore_n (lv' := [(1, .int (jj 0)), (0, .ref h)]) C hl dX0_init_13 rfl (by decide) rfl (fun ls hl => ?_)
  refine q_iload_n C hl dX0_init_14 rfl 0 rfl ?_
  refine q_aload_n C hl dX0_init_15 rfl 1 rfl ?_
  refine q_get (Cn := RX0) (T := TX0) (N := 2) (ci := 0) C w.1 (fun w h => List.mem_cons_of_mem _ (List.mem_append_left _ (List.mem_append_right _ h))) 0 rfl rfl 0 (by decide) (List.mem_of_getElem? (i := 5) rfl) rfl dX0_init_16 ?_
  refine va_alen (v := jj 5) C.1 C.2.1 C.K w.1 1 2 rfl rfl rfl dX0_init_19 ?_
  refine q_icmp_ge (tgt := 42) C dX0_init_20 (by decide) ⟨by omega, by omega⟩ ⟨by omega, by omega⟩ (fun z => absurd z (by omega)) (fun _ => ?_)
  refine q_aload_n C hl dX0_init_23 rfl 1 rfl ?_
  refine q_get (Cn := RX0) (T := TX0) (N := 2) (ci := 0) C w.1 (fun w h => List.mem_cons_of_mem _ (List.mem_append_left _ (List.mem_append_right _ h))) 0 rfl rfl 0 (by decide) (List.mem_of_getElem? (i := 5) rfl) rfl dX0_init_24 ?_
  refine q_iload_n C hl dX0_init_27 rfl 0 rfl ?_
  refine q_newo (Cn := RX1) (T := TX1) (N := 17) (ci := 1) (fs := zS) C w (fun w h => List.mem_cons_of_mem _ (List.mem_append_right _ h)) tyX1 tyX1_ok (List.mem_of_getElem? (i := 4) rfl) (List.mem_of_getElem? (i := 6) rfl) (List.mem_of_getElem? (i := 7) rfl) rfl dfX1 (Nat.le_of_ble_eq_true rfl) (Nat.le_of_ble_eq_true rfl) dX0_init_28 (fun b0 H w => ?_)
  refine q_dup C dX0_init_31 rfl ?_
  have w : Wd D A s (((h, .inr (0, [.ref har, .int (jj 0)])) :: (har, rE cS []) :: []) ++ [(b0, .inr (1, zS))]) H _ := w
  refine q_runU (ws := ((h, .inr (0, [.ref har, .int (jj 0)])) :: (har, rE cS []) :: []) ++ [(b0, .inr (1, zS))]) (ws2 := fun u => ((h, .inr (0, [.ref har, .int (jj 0)])) :: (har, rE cS []) :: []) ++ cSt cI b0 u st0) C w (fun u => fr_tl) ⟨_, _, fr_tl (w1 := [])⟩ (q_IN (rest := [.ref b0, .int (jj 0), .ref har]) C w fr_tl fX1_init gX0_init_X1_init_n15 (List.mem_of_getElem? (i := 7) rfl) C.N.2.2.1 (List.mem_of_getElem? (i := 8) rfl) ⟨Nat.le_of_ble_eq_true rfl, Nat.le_of_ble_eq_true rfl⟩ (kX1_init l D cI cC cS b0 _) rfl hl (Nat.le_of_ble_eq_true rfl) dX0_init_32 ⟨Nat.le_of_ble_eq_true rfl, Nat.le_of_ble_eq_true rfl⟩) (fun a0 H locs w => ?_)
  have w : Wd D A s ((h, .inr (0, [.ref har, .int (jj 0)])) :: (har, rE cS []) :: (cSt cI b0 a0 st0)) H locs := w
  refine q_rst C w rfl (Nat.le_of_ble_eq_true rfl) (qk := 2) rfl dX0_init_35 (fun H locs w => ?_)
  have w : Wd D A s ((h, .inr (0, [.ref har, .int (jj 0)])) :: (har, rE cS [b0]) :: (cSt cI b0 a0 st0)) H locs := w
  refine q_iinc (lv' := [(1, .int (jj 1)), (0, .ref h)]) C hl dX0_init_36 0 rfl (by decide) rfl (fun ls hl => ?_)
  refine q_goto (tgt := 14) C dX0_init_39 (by decide) ?_
  refine q_iload_n C hl dX0_init_14 rfl 0 rfl ?_
  refine q_aload_n C hl dX0_init_15 rfl 1 rfl ?_
  refine q_get (Cn := RX0) (T := TX0) (N := 2) (ci := 0) C w.1 (fun w h => List.mem_cons_of_mem _ (List.mem_append_left _ (List.mem_append_right _ h))) 0 rfl rfl 0 (by decide) (List.mem_of_getElem? (i := 5) rfl) rfl dX0_init_16 ?_
  refine va_alen (v := jj 5) C.1 C.2.1 C.K w.1 1 2 rfl rfl rfl dX0_init_19 ?_
  refine q_icmp_ge (tgt := 42) C dX0_init_20 (by decide) ⟨by omega, by omega⟩ ⟨by omega, by omega⟩ (fun z => absurd z (by omega)) (fun _ => ?_)
  refine q_aload_n C hl dX0_init_23 rfl 1 rfl ?_
  refine q_get (Cn := RX0) (T := TX0) (N := 2) (ci := 0) C w.1 (fun w h => List.mem_cons_of_mem _ (List.mem_append_left _ (List.mem_append_right _ h))) 0 rfl rfl 0 (by decide) (List.mem_of_getElem? (i := 5) rfl) rfl dX0_init_24 ?_
  refine q_iload_n C hl dX0_init_27 rfl 0 rfl ?_
  refine q_newo (Cn := RX1) (T := TX1) (N := 17) (ci := 1) (fs := zS) C w (fun w h => List.mem_cons_of_mem _ (List.mem_append_right _ h)) tyX1 tyX1_ok (List.mem_of_getElem? (i := 4) rfl) (List.mem_of_getElem? (i := 6) rfl) (List.mem_of_getElem? (i := 7) rfl) rfl dfX1 (Nat.le_of_ble_eq_true rfl) (Nat.le_of_ble_eq_true rfl) dX0_init_28 (fun b1 H w => ?_)
  refine q_dup C dX0_init_31 rfl ?_
  have w : Wd D A s (((h, .inr (0, [.ref har, .int (jj 0)])) :: (har, rE cS [b0]) :: (cSt cI b0 a0 st0)) ++ [(b1, .inr (1, zS))]) H _ := w
  refine q_runU (ws := ((h, .inr (0, [.ref har, .int (jj 0)])) :: (har, rE cS [b0]) :: (cSt cI b0 a0 st0)) ++ [(b1, .inr (1, zS))]) (ws2 := fun u => ((h, .inr (0, [.ref har, .int (jj 0)])) :: (har, rE cS [b0]) :: (cSt cI b0 a0 st0)) ++ cSt cI b1 u st0) C w (fun u => fr_tl) ⟨_, _, fr_tl (w1 := [])⟩ (q_IN (rest := [.ref b1, .int (jj 1), .ref har]) C w fr_tl fX1_init gX0_init_X1_init_n15 (List.mem_of_getElem? (i := 7) rfl) C.N.2.2.1 (List.mem_of_getElem? (i := 8) rfl) ⟨Nat.le_of_ble_eq_true rfl, Nat.le_of_ble_eq_true rfl⟩ (kX1_init l D cI cC cS b1 _) rfl hl (Nat.le_of_ble_eq_true rfl) dX0_init_32 ⟨Nat.le_of_ble_eq_true rfl, Nat.le_of_ble_eq_true rfl⟩) (fun a1 H locs w => ?_)
  have w : Wd D A s ((h, .inr (0, [.ref har, .int (jj 0)])) :: (har, rE cS [b0]) :: (cSt cI b0 a0 st0 ++ (cSt cI b1 a1 st0))) H locs := w
  refine q_rst C w rfl (Nat.le_of_ble_eq_true rfl) (qk := 10) rfl dX0_init_35 (fun H locs w => ?_)
  have w : Wd D A s ((h, .inr (0, [.ref har, .int (jj 0)])) :: (har, rE cS [b0, b1]) :: (cSt cI b0 a0 st0 ++ (cSt cI b1 a1 st0))) H locs := w
  refine q_iinc (lv' := [(1, .int (jj 2)), (0, .ref h)]) C hl dX0_init_36 0 rfl (by decide) rfl (fun ls hl => ?_)
  refine q_goto (tgt := 14) C dX0_init_39 (by decide) ?_
  refine q_iload_n C hl dX0_init_14 rfl 0 rfl ?_
  refine q_aload_n C hl dX0_init_15 rfl 1 rfl ?_
  refine q_get (Cn := RX0) (T := TX0) (N := 2) (ci := 0) C w.1 (fun w h => List.mem_cons_of_mem _ (List.mem_append_left _ (List.mem_append_right _ h))) 0 rfl rfl 0 (by decide) (List.mem_of_getElem? (i := 5) rfl) rfl dX0_init_16 ?_
  refine va_alen (v := jj 5) C.1 C.2.1 C.K w.1 1 2 rfl rfl rfl dX0_init_19 ?_
  refine q_icmp_ge (tgt := 42) C dX0_init_20 (by decide) ⟨by omega, by omega⟩ ⟨by omega, by omega⟩ (fun z => absurd z (by omega)) (fun _ => ?_)
  refine q_aload_n C hl dX0_init_23 rfl 1 rfl ?_
  refine q_get (Cn := RX0) (T := TX0) (N := 2) (ci := 0) C w.1 (fun w h => List.mem_cons_of_mem _ (List.mem_append_left _ (List.mem_append_right _ h))) 0 rfl rfl 0 (by decide) (List.mem_of_getElem? (i := 5) rfl) rfl dX0_init_24 ?_
  refine q_iload_n C hl dX0_init_27 rfl 0 rfl ?_
  refine q_newo (Cn := RX1) (T := TX1) (N := 17) (ci := 1) (fs := zS) C w (fun w h => List.mem_cons_of_mem _ (List.mem_append_right _ h)) tyX1 tyX1_ok (List.mem_of_getElem? (i := 4) rfl) (List.mem_of_getElem? (i := 6) rfl) (List.mem_of_getElem? (i := 7) rfl) rfl dfX1 (Nat.le_of_ble_eq_true rfl) (Nat.le_of_ble_eq_true rfl) dX0_init_28 (fun b2 H w => ?_)
  refine q_dup C dX0_init_31 rfl ?_
  have w : Wd D A s (((h, .inr (0, [.ref har, .int (jj 0)])) :: (har, rE cS [b0, b1]) :: (cSt cI b0 a0 st0 ++ (cSt cI b1 a1 st0))) ++ [(b2, .inr (1, zS))]) H _ := w
  refine q_runU (ws := ((h, .inr (0, [.ref har, .int (jj 0)])) :: (har, rE cS [b0, b1]) :: (cSt cI b0 a0 st0 ++ (cSt cI b1 a1 st0))) ++ [(b2, .inr (1, zS))]) (ws2 := fun u => ((h, .inr (0, [.ref har, .int (jj 0)])) :: (har, rE cS [b0, b1]) :: (cSt cI b0 a0 st0 ++ (cSt cI b1 a1 st0))) ++ cSt cI b2 u st0) C w (fun u => fr_tl) ⟨_, _, fr_tl (w1 := [])⟩ (q_IN (rest := [.ref b2, .int (jj 2), .ref har]) C w fr_tl fX1_init gX0_init_X1_init_n15 (List.mem_of_getElem? (i := 7) rfl) C.N.2.2.1 (List.mem_of_getElem? (i := 8) rfl) ⟨Nat.le_of_ble_eq_true rfl, Nat.le_of_ble_eq_true rfl⟩ (kX1_init l D cI cC cS b2 _) rfl hl (Nat.le_of_ble_eq_true rfl) dX0_init_32 ⟨Nat.le_of_ble_eq_true rfl, Nat.le_of_ble_eq_true rfl⟩) (fun a2 H locs w => ?_)
  have w : Wd D A s ((h, .inr (0, [.ref har, .int (jj 0)])) :: (har, rE cS [b0, b1]) :: (cSt cI b0 a0 st0 ++ (cSt cI b1 a1 st0 ++ (cSt cI b2 a2 st0)))) H locs := w
  refine q_rst C w rfl (Nat.le_of_ble_eq_true rfl) (qk := 18) rfl dX0_init_35 (fun H locs w => ?_)
  have w : Wd D A s ((h, .inr (0, [.ref har, .int (jj 0)])) :: (har, rE cS [b0, b1, b2]) :: (cSt cI b0 a0 st0 ++ (cSt cI b1 a1 st0 ++ (cSt cI b2 a2 st0)))) H locs := w
  refine q_iinc (lv' := [(1, .int (jj 3)), (0, .ref h)]) C hl dX0_init_36 0 rfl (by decide) rfl (fun ls hl => ?_)
  refine q_goto (tgt := 14) C dX0_init_39 (by decide) ?_
  refine q_iload_n C hl dX0_init_14 rfl 0 rfl ?_
  refine q_aload_n C hl dX0_init_15 rfl 1 rfl ?_
  refine q_get (Cn := RX0) (T := TX0) (N := 2) (ci := 0) C w.1 (fun w h => List.mem_cons_of_mem _ (List.mem_append_left _ (List.mem_append_right _ h))) 0 rfl rfl 0 (by decide) (List.mem_of_getElem? (i := 5) rfl) rfl dX0_init_16 ?_
  refine va_alen (v := jj 5) C.1 C.2.1 C.K w.1 1 2 rfl rfl rfl dX0_init_19 ?_
  refine q_icmp_ge (tgt := 42) C dX0_init_20 (by decide) ⟨by omega, by omega⟩ ⟨by omega, by omega⟩ (fun z => absurd z (by omega)) (fun _ => ?_)
  refine q_aload_n C hl dX0_init_23 rfl 1 rfl ?_
  refine q_get (Cn := RX0) (T := TX0) (N := 2) (ci := 0) C w.1 (fun w h => List.mem_cons_of_mem _ (List.mem_append_left _ (List.mem_append_right _ h))) 0 rfl rfl 0 (by decide) (List.mem_of_getElem? (i := 5) rfl) rfl dX0_init_24 ?_
  refine q_iload_n C hl dX0_init_27 rfl 0 rfl ?_
  refine q_newo (Cn := RX1) (T := TX1) (N := 17) (ci := 1) (fs := zS) C w (fun w h => List.mem_cons_of_mem _ (List.mem_append_right _ h)) tyX1 tyX1_ok (List.mem_of_getElem? (i := 4) rfl) (List.mem_of_getElem? (i := 6) rfl) (List.mem_of_getElem? (i := 7) rfl) rfl dfX1 (Nat.le_of_ble_eq_true rfl) (Nat.le_of_ble_eq_true rfl) dX0_init_28 (fun b3 H w => ?_)
  refine q_dup C dX0_init_31 rfl ?_
  have w : Wd D A s (((h, .inr (0, [.ref har, .int (jj 0)])) :: (har, rE cS [b0, b1, b2]) :: (cSt cI b0 a0 st0 ++ (cSt cI b1 a1 st0 ++ (cSt cI b2 a2 st0)))) ++ [(b3, .inr (1, zS))]) H _ := w
  refine q_runU (ws := ((h, .inr (0, [.ref har, .int (jj 0)])) :: (har, rE cS [b0, b1, b2]) :: (cSt cI b0 a0 st0 ++ (cSt cI b1 a1 st0 ++ (cSt cI b2 a2 st0)))) ++ [(b3, .inr (1, zS))]) (ws2 := fun u => ((h, .inr (0, [.ref har, .int (jj 0)])) :: (har, rE cS [b0, b1, b2]) :: (cSt cI b0 a0 st0 ++ (cSt cI b1 a1 st0 ++ (cSt cI b2 a2 st0)))) ++ cSt cI b3 u st0) C w (fun u => fr_tl) ⟨_, _, fr_tl (w1 := [])⟩ (q_IN (rest := [.ref b3, .int (jj 3), .ref har]) C w fr_tl fX1_init gX0_init_X1_init_n15 (List.mem_of_getElem? (i := 7) rfl) C.N.2.2.1 (List.mem_of_getElem? (i := 8) rfl) ⟨Nat.le_of_ble_eq_true rfl, Nat.le_of_ble_eq_true rfl⟩ (kX1_init l D cI cC cS b3 _) rfl hl (Nat.le_of_ble_eq_true rfl) dX0_init_32 ⟨Nat.le_of_ble_eq_true rfl, Nat.le_of_ble_eq_true rfl⟩) (fun a3 H locs w => ?_)
  have w : Wd D A s ((h, .inr (0, [.ref har, .int (jj 0)])) :: (har, rE cS [b0, b1, b2]) :: (cSt cI b0 a0 st0 ++ (cSt cI b1 a1 st0 ++ (cSt cI b2 a2 st0 ++ (cSt cI b3 a3 st0))))) H locs := w
  refine q_rst C w rfl (Nat.le_of_ble_eq_true rfl) (qk := 26) rfl dX0_init_35 (fun H locs w => ?_)
  have w : Wd D A s ((h, .inr (0, [.ref har, .int (jj 0)])) :: (har, rE cS [b0, b1, b2, b3]) :: (cSt cI b0 a0 st0 ++ (cSt cI b1 a1 st0 ++ (cSt cI b2 a2 st0 ++ (cSt cI b3 a3 st0))))) H locs := w
  refine q_iinc (lv' := [(1, .int (jj 4)), (0, .ref h)]) C hl dX0_init_36 0 rfl (by decide) rfl (fun ls hl => ?_)
  refine q_goto (tgt := 14) C dX0_init_39 (by decide) ?_
  refine q_iload_n C hl dX0_init_14 rfl 0 rfl ?_
  refine q_aload_n C hl dX0_init_15 rfl 1 rfl ?_
  refine q_get (Cn := RX0) (T := TX0) (N := 2) (ci := 0) C w.1 (fun w h => List.mem_cons_of_mem _ (List.mem_append_left _ (List.mem_append_right _ h))) 0 rfl rfl 0 (by decide) (List.mem_of_getElem? (i := 5) rfl) rfl dX0_init_16 ?_
  refine va_alen (v := jj 5) C.1 C.2.1 C.K w.1 1 2 rfl rfl rfl dX0_init_19 ?_
  refine q_icmp_ge (tgt := 42) C dX0_init_20 (by decide) ⟨by omega, by omega⟩ ⟨by omega, by omega⟩ (fun z => absurd z (by omega)) (fun _ => ?_)
  refine q_aload_n C hl dX0_init_23 rfl 1 rfl ?_
  refine q_get (Cn := RX0) (T := TX0) (N := 2) (ci := 0) C w.1 (fun w h => List.mem_cons_of_mem _ (List.mem_append_left _ (List.mem_append_right _ h))) 0 rfl rfl 0 (by decide) (List.mem_of_getElem? (i := 5) rfl) rfl dX0_init_24 ?_
  refine q_iload_n C hl dX0_init_27 rfl 0 rfl ?_
  refine q_newo (Cn := RX1) (T := TX1) (N := 17) (ci := 1) (fs := zS) C w (fun w h => List.mem_cons_of_mem _ (List.mem_append_right _ h)) tyX1 tyX1_ok (List.mem_of_getElem? (i := 4) rfl) (List.mem_of_getElem? (i := 6) rfl) (List.mem_of_getElem? (i := 7) rfl) rfl dfX1 (Nat.le_of_ble_eq_true rfl) (Nat.le_of_ble_eq_true rfl) dX0_init_28 (fun b4 H w => ?_)
  refine q_dup C dX0_init_31 rfl ?_
  have w : Wd D A s (((h, .inr (0, [.ref har, .int (jj 0)])) :: (har, rE cS [b0, b1, b2, b3]) :: (cSt cI b0 a0 st0 ++ (cSt cI b1 a1 st0 ++ (cSt cI b2 a2 st0 ++ (cSt cI b3 a3 st0))))) ++ [(b4, .inr (1, zS))]) H _ := w
  refine q_runU (ws := ((h, .inr (0, [.ref har, .int (jj 0)])) :: (har, rE cS [b0, b1, b2, b3]) :: (cSt cI b0 a0 st0 ++ (cSt cI b1 a1 st0 ++ (cSt cI b2 a2 st0 ++ (cSt cI b3 a3 st0))))) ++ [(b4, .inr (1, zS))]) (ws2 := fun u => ((h, .inr (0, [.ref har, .int (jj 0)])) :: (har, rE cS [b0, b1, b2, b3]) :: (cSt cI b0 a0 st0 ++ (cSt cI b1 a1 st0 ++ (cSt cI b2 a2 st0 ++ (cSt cI b3 a3 st0))))) ++ cSt cI b4 u st0) C w (fun u => fr_tl) ⟨_, _, fr_tl (w1 := [])⟩ (q_IN (rest := [.ref b4, .int (jj 4), .ref har]) C w fr_tl fX1_init gX0_init_X1_init_n15 (List.mem_of_getElem? (i := 7) rfl) C.N.2.2.1 (List.mem_of_getElem? (i := 8) rfl) ⟨Nat.le_of_ble_eq_true rfl, Nat.le_of_ble_eq_true rfl⟩ (kX1_init l D cI cC cS b4 _) rfl hl (Nat.le_of_ble_eq_true rfl) dX0_init_32 ⟨Nat.le_of_ble_eq_true rfl, Nat.le_of_ble_eq_true rfl⟩) (fun a4 H locs w => ?_)
  have w : Wd D A s ((h, .inr (0, [.ref har, .int (jj 0)])) :: (har, rE cS [b0, b1, b2, b3]) :: (cSt cI b0 a0 st0 ++ (cSt cI b1 a1 st0 ++ (cSt cI b2 a2 st0 ++ (cSt cI b3 a3 st0 ++ (cSt cI b4 a4 st0)))))) H locs := w
  refine q_rst C w rfl (Nat.le_of_ble_eq_true rfl) (qk := 34) rfl dX0_init_35 (fun H locs w => ?_)
  have w : Wd D A s ((h, .inr (0, [.ref har, .int (jj 0)])) :: (har, rE cS [b0, b1, b2, b3, b4]) :: (cSt cI b0 a0 st0 ++ (cSt cI b1 a1 st0 ++ (cSt cI b2 a2 st0 ++ (cSt cI b3 a3 st0 ++ (cSt cI b4 a4 st0)))))) H locs := w
  refine q_iinc (lv' := [(1, .int (jj 5)), (0, .ref h)]) C hl dX0_init_36 0 rfl (by decide) rfl (fun ls hl => ?_)
  refine q_goto (tgt := 14) C dX0_init_39 (by decide) ?_
  refine q_iload_n C hl dX0_init_14 rfl 0 rfl ?_
  refine q_aload_n C hl dX0_init_15 rfl 1 rfl ?_
  refine q_get (Cn := RX0) (T := TX0) (N := 2) (ci := 0) C w.1 (fun w h => List.mem_cons_of_mem _ (List.mem_append_left _ (List.mem_append_right _ h))) 0 rfl rfl 0 (by decide) (List.mem_of_getElem? (i := 5) rfl) rfl dX0_init_16 ?_
  refine va_alen (v := jj 5) C.1 C.2.1 C.K w.1 1 2 rfl rfl rfl dX0_init_19 ?_
  refine q_icmp_ge (tgt := 42) C dX0_init_20 (by decide) ⟨by omega, by omega⟩ ⟨by omega, by omega⟩ (fun _ => ?_) (fun z => absurd z (by omega))
  exact q_vretU (⟨har, aL [b0, b1, b2, b3, b4], aLL [a0, a1, a2, a3, a4]⟩ : HH) C (wd_row (g := fun i => some (aL [b0, b1, b2, b3, b4] i)) (fun k hk => by have h5 : k = 0 ∨ k = 1 ∨ k = 2 ∨ k = 3 ∨ k = 4 := (by omega); rcases h5 with rfl | rfl | rfl | rfl | rfl <;> rfl) w) rfl rfl dX0_init_42
def rX3_init : Room := { frames := 3, cells := 63, slots := 976, locals := 65 }
theorem fX3_init : Fn yX3_init wsX3_init rX3_init cX3_init 1 63 976 := ⟨⟨_, rfl⟩, rfl, rfl, by decide +kernel, by decide +kernel, by decide +kernel, rfl⟩
set_option maxHeartbeats 4000000 in
set_option maxRecDepth 10000 in
theorem kX3_init (l : Launch) (D : va_G) (cI cC cS : ClassId) (h : Nat) : Kn l yX3_init wsX3_init rX3_init D (tz cI cC cS) [.ref h] [(h, .inr (3, zQ))] (fun ad : UU => uW cI cC cS h ad.hn ad.adn ad.hsn ad.ads ad.hh ad.hu.har ad.hw ad.adw st0 st0 ad.hu.hs ad.hu.ha (fun _ => st0) 0 z0 z0 z0 z0 z0 u0Q) 63 976 := by
  intro sz
  refine q_entry (y := yX3_init) (av := [.ref h]) (w0 := [(h, .inr (3, zQ))]) (Qf := fun A => va_Qv (fun _ : UU => True) (fun ad t => bW D (tz cI cC cS) A (uW cI cC cS h ad.hn ad.adn ad.hsn ad.ads ad.hh ad.hu.har ad.hw ad.adw st0 st0 ad.hu.hs ad.hu.ha (fun _ => st0) 0 z0 z0 z0 z0 z0 u0Q) t) A) (cc := cX3_init) (nL := 1) (ret := none) (by decide) ⟨_, rfl⟩ (Nat.le_of_ble_eq_true rfl) ?_ sz
  intro A pr en s m args below meth c C hin0 w ls hl
  have hnm := hin0 rfl
  have w := w
  have hl : lv_has ls 1 [(0, .ref h)] := hl
  refine q_aload_n C hl dX3_init_0 rfl 0 rfl ?_
  refine q_objInit C hl (List.mem_of_getElem? (i := 1) rfl) (List.mem_of_getElem? (i := 2) rfl) (List.mem_of_getElem? (i := 3) rfl) (Nat.le_of_ble_eq_true rfl) (Nat.le_of_ble_eq_true rfl) (Nat.le_of_ble_eq_true rfl) dX3_init_1 ?_
  refine q_aload_n C hl dX3_init_4 rfl 0 rfl ?_
  refine q_newo (Cn := RX1) (T := TX1) (N := 17) (ci := 1) (fs := zS) C w (fun w h => List.mem_cons_of_mem _ (List.mem_append_left _ (List.mem_append_left _ (List.mem_append_left _ (List.mem_append_right _ h))))) tyX1 tyX1_ok (List.mem_of_getElem? (i := 4) rfl) (List.mem_of_getElem? (i := 5) rfl) (List.mem_of_getElem? (i := 6) rfl) rfl dfX1 (Nat.le_of_ble_eq_true rfl) (Nat.le_of_ble_eq_true rfl) dX3_init_5 (fun b0 H w => ?_)
  refine q_dup C dX3_init_8 rfl ?_
  have w : Wd D A s (((h, .inr (3, [.null, .null, .null, .null, .int (jj 0), .int (jj 0), .int (jj 0)])) :: []) ++ [(b0, .inr (1, zS))]) H _ := w
  refine q_runU (ws := ((h, .inr (3, [.null, .null, .null, .null, .int (jj 0), .int (jj 0), .int (jj 0)])) :: []) ++ [(b0, .inr (1, zS))]) (ws2 := fun u => ((h, .inr (3, [.null, .null, .null, .null, .int (jj 0), .int (jj 0), .int (jj 0)])) :: []) ++ cSt cI b0 u st0) C w (fun u => fr_tl) ⟨_, _, fr_tl (w1 := [])⟩ (q_IN (rest := [.ref b0, .ref h]) C w fr_tl fX1_init gX3_init_X1_init_n9 (List.mem_of_getElem? (i := 6) rfl) C.N.2.1 (List.mem_of_getElem? (i := 19) rfl) ⟨Nat.le_of_ble_eq_true rfl, Nat.le_of_ble_eq_true rfl⟩ (kX1_init l D cI cC cS b0 _) rfl hl (Nat.le_of_ble_eq_true rfl) dX3_init_9 ⟨Nat.le_of_ble_eq_true rfl, Nat.le_of_ble_eq_true rfl⟩) (fun a0 H locs w => ?_)
  have w : Wd D A s ((h, .inr (3, [.null, .null, .null, .null, .int (jj 0), .int (jj 0), .int (jj 0)])) :: (cSt cI b0 a0 st0)) H locs := w
  refine q_putF (Cn := RX3) (T := TX3) (N := 7) (ci := 3) (ws' := (h, .inr (3, [.ref b0, .null, .null, .null, .int (jj 0), .int (jj 0), .int (jj 0)])) :: (cSt cI b0 a0 st0)) C hnm w (fun w h => List.mem_cons_of_mem _ (List.mem_append_left _ (List.mem_append_left _ (List.mem_append_right _ h)))) tyX3 tyX3_ok nmX3 0 rfl rfl 0 (by decide) (List.mem_of_getElem? (i := 7) rfl) rfl rfl (tyX3_ok 0 (by decide)) rfl rfl (Nat.le_of_ble_eq_true rfl) dX3_init_12 rfl (fun H locs w => ?_)
  refine q_aload_n C hl dX3_init_15 rfl 0 rfl ?_
  refine q_newo (Cn := RX1) (T := TX1) (N := 17) (ci := 1) (fs := zS) C w (fun w h => List.mem_cons_of_mem _ (List.mem_append_left _ (List.mem_append_left _ (List.mem_append_left _ (List.mem_append_right _ h))))) tyX1 tyX1_ok (List.mem_of_getElem? (i := 4) rfl) (List.mem_of_getElem? (i := 5) rfl) (List.mem_of_getElem? (i := 6) rfl) rfl dfX1 (Nat.le_of_ble_eq_true rfl) (Nat.le_of_ble_eq_true rfl) dX3_init_16 (fun b1 H w => ?_)
  refine q_dup C dX3_init_19 rfl ?_
  have w : Wd D A s (((h, .inr (3, [.ref b0, .null, .null, .null, .int (jj 0), .int (jj 0), .int (jj 0)])) :: (cSt cI b0 a0 st0)) ++ [(b1, .inr (1, zS))]) H _ := w
  refine q_runU (ws := ((h, .inr (3, [.ref b0, .null, .null, .null, .int (jj 0), .int (jj 0), .int (jj 0)])) :: (cSt cI b0 a0 st0)) ++ [(b1, .inr (1, zS))]) (ws2 := fun u => ((h, .inr (3, [.ref b0, .null, .null, .null, .int (jj 0), .int (jj 0), .int (jj 0)])) :: (cSt cI b0 a0 st0)) ++ cSt cI b1 u st0) C w (fun u => fr_tl) ⟨_, _, fr_tl (w1 := [])⟩ (q_IN (rest := [.ref b1, .ref h]) C w fr_tl fX1_init gX3_init_X1_init_n9 (List.mem_of_getElem? (i := 6) rfl) C.N.2.1 (List.mem_of_getElem? (i := 19) rfl) ⟨Nat.le_of_ble_eq_true rfl, Nat.le_of_ble_eq_true rfl⟩ (kX1_init l D cI cC cS b1 _) rfl hl (Nat.le_of_ble_eq_true rfl) dX3_init_20 ⟨Nat.le_of_ble_eq_true rfl, Nat.le_of_ble_eq_true rfl⟩) (fun a1 H locs w => ?_)
  have w : Wd D A s ((h, .inr (3, [.ref b0, .null, .null, .null, .int (jj 0), .int (jj 0), .int (jj 0)])) :: (cSt cI b0 a0 st0 ++ (cSt cI b1 a1 st0))) H locs := w
  refine q_putF (Cn := RX3) (T := TX3) (N := 7) (ci := 3) (ws' := (h, .inr (3, [.ref b0, .ref b1, .null, .null, .int (jj 0), .int (jj 0), .int (jj 0)])) :: (cSt cI b0 a0 st0 ++ (cSt cI b1 a1 st0))) C hnm w (fun w h => List.mem_cons_of_mem _ (List.mem_append_left _ (List.mem_append_left _ (List.mem_append_right _ h)))) tyX3 tyX3_ok nmX3 0 rfl rfl 1 (by decide) (List.mem_of_getElem? (i := 8) rfl) rfl rfl (tyX3_ok 1 (by decide)) rfl rfl (Nat.le_of_ble_eq_true rfl) dX3_init_23 rfl (fun H locs w => ?_)
  refine q_aload_n C hl dX3_init_26 rfl 0 rfl ?_
  refine q_newo (Cn := RX0) (T := TX0) (N := 2) (ci := 0) (fs := zH) C w (fun w h => List.mem_cons_of_mem _ (List.mem_append_left _ (List.mem_append_right _ h))) tyX0 tyX0_ok (List.mem_of_getElem? (i := 9) rfl) (List.mem_of_getElem? (i := 10) rfl) (List.mem_of_getElem? (i := 11) rfl) rfl dfX0 (Nat.le_of_ble_eq_true rfl) (Nat.le_of_ble_eq_true rfl) dX3_init_27 (fun b2 H w => ?_)
  refine q_dup C dX3_init_30 rfl ?_
  have w : Wd D A s (((h, .inr (3, [.ref b0, .ref b1, .null, .null, .int (jj 0), .int (jj 0), .int (jj 0)])) :: (cSt cI b0 a0 st0 ++ (cSt cI b1 a1 st0))) ++ [(b2, .inr (0, zH))]) H _ := w
  refine q_runU (ws := ((h, .inr (3, [.ref b0, .ref b1, .null, .null, .int (jj 0), .int (jj 0), .int (jj 0)])) :: (cSt cI b0 a0 st0 ++ (cSt cI b1 a1 st0))) ++ [(b2, .inr (0, zH))]) (ws2 := fun u => ((h, .inr (3, [.ref b0, .ref b1, .null, .null, .int (jj 0), .int (jj 0), .int (jj 0)])) :: (cSt cI b0 a0 st0 ++ (cSt cI b1 a1 st0))) ++ hW cI cS b2 (u : HH).har u.hs u.ha (fun _ => st0) 0) C w (fun u => fr_tl) ⟨_, _, fr_tl (w1 := [])⟩ (q_I (rest := [.ref b2, .ref h]) C w fr_tl fX0_init gX3_init_X0_init (List.mem_of_getElem? (i := 11) rfl) (List.mem_of_getElem? (i := 30) rfl) (List.mem_of_getElem? (i := 31) rfl) ⟨Nat.le_of_ble_eq_true rfl, Nat.le_of_ble_eq_true rfl⟩ (kX0_init l D cI cC cS b2 _) rfl hl (Nat.le_of_ble_eq_true rfl) dX3_init_31 ⟨Nat.le_of_ble_eq_true rfl, Nat.le_of_ble_eq_true rfl⟩) (fun a2 H locs w => ?_)
  have w : Wd D A s ((h, .inr (3, [.ref b0, .ref b1, .null, .null, .int (jj 0), .int (jj 0), .int (jj 0)])) :: (cSt cI b0 a0 st0 ++ (cSt cI b1 a1 st0 ++ (hW cI cS b2 a2.har a2.hs a2.ha (fun _ => st0) 0)))) H locs := w
  refine q_putF (Cn := RX3) (T := TX3) (N := 7) (ci := 3) (ws' := (h, .inr (3, [.ref b0, .ref b1, .ref b2, .null, .int (jj 0), .int (jj 0), .int (jj 0)])) :: (cSt cI b0 a0 st0 ++ (cSt cI b1 a1 st0 ++ (hW cI cS b2 a2.har a2.hs a2.ha (fun _ => st0) 0)))) C hnm w (fun w h => List.mem_cons_of_mem _ (List.mem_append_left _ (List.mem_append_left _ (List.mem_append_right _ h)))) tyX3 tyX3_ok nmX3 0 rfl rfl 2 (by decide) (List.mem_of_getElem? (i := 12) rfl) rfl rfl (tyX3_ok 2 (by decide)) rfl rfl (Nat.le_of_ble_eq_true rfl) dX3_init_34 rfl (fun H locs w => ?_)
  refine q_aload_n C hl dX3_init_37 rfl 0 rfl ?_
  refine q_newo (Cn := RX2) (T := TX2) (N := 7) (ci := 2) (fs := zT) C w (fun w h => List.mem_cons_of_mem _ (List.mem_append_right _ h)) tyX2 tyX2_ok (List.mem_of_getElem? (i := 13) rfl) (List.mem_of_getElem? (i := 14) rfl) (List.mem_of_getElem? (i := 15) rfl) rfl dfX2 (Nat.le_of_ble_eq_true rfl) (Nat.le_of_ble_eq_true rfl) dX3_init_38 (fun b3 H w => ?_)
  refine q_dup C dX3_init_41 rfl ?_
  have w : Wd D A s (((h, .inr (3, [.ref b0, .ref b1, .ref b2, .null, .int (jj 0), .int (jj 0), .int (jj 0)])) :: (cSt cI b0 a0 st0 ++ (cSt cI b1 a1 st0 ++ (hW cI cS b2 a2.har a2.hs a2.ha (fun _ => st0) 0)))) ++ [(b3, .inr (2, zT))]) H _ := w
  refine q_runU (ws := ((h, .inr (3, [.ref b0, .ref b1, .ref b2, .null, .int (jj 0), .int (jj 0), .int (jj 0)])) :: (cSt cI b0 a0 st0 ++ (cSt cI b1 a1 st0 ++ (hW cI cS b2 a2.har a2.hs a2.ha (fun _ => st0) 0)))) ++ [(b3, .inr (2, zT))]) (ws2 := fun u => ((h, .inr (3, [.ref b0, .ref b1, .ref b2, .null, .int (jj 0), .int (jj 0), .int (jj 0)])) :: (cSt cI b0 a0 st0 ++ (cSt cI b1 a1 st0 ++ (hW cI cS b2 a2.har a2.hs a2.ha (fun _ => st0) 0)))) ++ tW cI cC b3 u z0 z0 z0 z0 z0) C w (fun u => fr_tl) ⟨_, _, fr_tl (w1 := [])⟩ (q_IN (rest := [.ref b3, .ref h]) C w fr_tl fX2_init gX3_init_X2_init_n28 (List.mem_of_getElem? (i := 15) rfl) C.N.1.1 (List.mem_of_getElem? (i := 36) rfl) ⟨Nat.le_of_ble_eq_true rfl, Nat.le_of_ble_eq_true rfl⟩ (kX2_init l D cI cC cS b3 _) rfl hl (Nat.le_of_ble_eq_true rfl) dX3_init_42 ⟨Nat.le_of_ble_eq_true rfl, Nat.le_of_ble_eq_true rfl⟩) (fun a3 H locs w => ?_)
  have w : Wd D A s ((h, .inr (3, [.ref b0, .ref b1, .ref b2, .null, .int (jj 0), .int (jj 0), .int (jj 0)])) :: (cSt cI b0 a0 st0 ++ (cSt cI b1 a1 st0 ++ (hW cI cS b2 a2.har a2.hs a2.ha (fun _ => st0) 0 ++ (tW cI cC b3 a3 z0 z0 z0 z0 z0))))) H locs := w
  refine q_putF (Cn := RX3) (T := TX3) (N := 7) (ci := 3) (ws' := (h, .inr (3, [.ref b0, .ref b1, .ref b2, .ref b3, .int (jj 0), .int (jj 0), .int (jj 0)])) :: (cSt cI b0 a0 st0 ++ (cSt cI b1 a1 st0 ++ (hW cI cS b2 a2.har a2.hs a2.ha (fun _ => st0) 0 ++ (tW cI cC b3 a3 z0 z0 z0 z0 z0))))) C hnm w (fun w h => List.mem_cons_of_mem _ (List.mem_append_left _ (List.mem_append_left _ (List.mem_append_right _ h)))) tyX3 tyX3_ok nmX3 0 rfl rfl 3 (by decide) (List.mem_of_getElem? (i := 16) rfl) rfl rfl (tyX3_ok 3 (by decide)) rfl rfl (Nat.le_of_ble_eq_true rfl) dX3_init_45 rfl (fun H locs w => ?_)
  refine q_aload_n C hl dX3_init_48 rfl 0 rfl ?_
  refine q_bipush C dX3_init_49 (by decide) ?_
  refine q_put (Cn := RX3) (T := TX3) (N := 7) (ci := 3) (ws' := (h, .inr (3, [.ref b0, .ref b1, .ref b2, .ref b3, .int (jj 0), .int (jj (-5)), .int (jj 0)])) :: (cSt cI b0 a0 st0 ++ (cSt cI b1 a1 st0 ++ (hW cI cS b2 a2.har a2.hs a2.ha (fun _ => st0) 0 ++ (tW cI cC b3 a3 z0 z0 z0 z0 z0))))) C w (fun w h => List.mem_cons_of_mem _ (List.mem_append_left _ (List.mem_append_left _ (List.mem_append_right _ h)))) tyX3 tyX3_ok nmX3 0 rfl rfl 5 (by decide) (List.mem_of_getElem? (i := 17) rfl) rfl (tyX3_ok 5 (by decide)) rfl rfl (Nat.le_of_ble_eq_true rfl) dX3_init_51 rfl (fun H locs w => ?_)
  refine q_aload_n C hl dX3_init_54 rfl 0 rfl ?_
  refine q_bipush C dX3_init_55 (by decide) ?_
  refine q_put (Cn := RX3) (T := TX3) (N := 7) (ci := 3) (ws' := (h, .inr (3, [.ref b0, .ref b1, .ref b2, .ref b3, .int (jj 0), .int (jj (-5)), .int (jj (-5))])) :: (cSt cI b0 a0 st0 ++ (cSt cI b1 a1 st0 ++ (hW cI cS b2 a2.har a2.hs a2.ha (fun _ => st0) 0 ++ (tW cI cC b3 a3 z0 z0 z0 z0 z0))))) C w (fun w h => List.mem_cons_of_mem _ (List.mem_append_left _ (List.mem_append_left _ (List.mem_append_right _ h)))) tyX3 tyX3_ok nmX3 0 rfl rfl 6 (by decide) (List.mem_of_getElem? (i := 18) rfl) rfl (tyX3_ok 6 (by decide)) rfl rfl (Nat.le_of_ble_eq_true rfl) dX3_init_57 rfl (fun H locs w => ?_)
  exact q_vretU (⟨b0, a0, b1, a1, b2, a2, b3, a3⟩ : UU) C w rfl rfl dX3_init_60
