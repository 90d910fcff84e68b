/-! The law: what holds in its walk; its script. -/
def R_law : String := "UmbrellaQueueLaw"
def lw_At (p : Program) (s : State) (m : MethodId) (meth : Method) (c : Code) (b L : Nat) (xs : Nat → Int32) : Prop :=
  p.tables.exec = Jvm.exec ∧ c.code = code ∧ meth.sig.returnType = ret ∧ c.maxLocals = 12 ∧ s.vm.findClass R_law = some m.cls ∧ (∀ w ∈ lw_tbl, w.before #[Value.ref b] s = true) ∧ va_X b L xs s s.heap ∧ b < s.heap.size ∧ meth.locks = false ∧ (Jvm.Cond.and given_1 narrow_1).before #[Value.ref b] s = true
theorem law_K {s : State} {args : Array Value} (hts : ∀ w ∈ lw_tbl, w.before args s = true) : ∃ (D : va_G) (cI cC cS : ClassId), va_K D vwCl (tz cI cC cS) s := by
  obtain ⟨c0, i0, h0⟩ := u_known hts inX0 (hts (.instantiable RX0 2) (by decide +kernel))
  obtain ⟨c1, i1, h1⟩ := u_known hts inX1 (hts (.instantiable RX1 17) (by decide +kernel))
  obtain ⟨c2, i2, h2⟩ := u_known hts inX2 (hts (.instantiable RX2 7) (by decide +kernel))
  obtain ⟨c3, i3, h3⟩ := u_known hts inX3 (hts (.instantiable RX3 7) (by decide +kernel))
  obtain ⟨cI, kI, pI, a1, a2, a3⟩ := Cond.arrayClass_spec (hts (.arrayClass .int) (by decide +kernel))
  obtain ⟨cC, kC, pC, b1, b2, b3⟩ := Cond.arrayClass_spec (hts (.arrayClass .char) (by decide +kernel))
  obtain ⟨pS, cS, kS, d1, d2, d3, d4, d5⟩ := Cond.arrayOver_spec (hts (.arrayOver (.object RX1)) (by decide +kernel))
  refine ⟨(fun k => match k with | 0 => c0 | 1 => c1 | 2 => c2 | _ => c3, fun k => match k with | 0 => i0 | 1 => i1 | 2 => i2 | _ => i3), cI, cC, cS, fun k q hq => ?_, fun k q hq => ?_⟩
  · match k with
    | 0 => cases hq; exact h0
    | 1 => cases hq; exact h1
    | 2 => cases hq; exact h2
    | 3 => cases hq; exact h3
    | n + 4 => exact absurd hq (by simp)
  · match k with
    | 0 => cases hq; exact ⟨fun n z => ⟨fun k h => (by cases h), kI, a2, pI, a3⟩, a1⟩
    | 1 => cases hq; exact ⟨fun n z => ⟨fun k h => (by cases h), kC, b2, pC, b3⟩, b1⟩
    | 2 => cases hq; exact ⟨fun n z => ⟨fun k h => (by cases h), kS, d3, pS, d4⟩, kS, pS, d3, d4, d1, d5⟩
    | n + 3 => exact absurd hq (by simp [tz])
theorem law_N {s : State} {args : Array Value} (hts : ∀ w ∈ lw_tbl, w.before args s = true) : NW s :=
  ⟨⟨va_Nw.of rfl (hts (.methodLinkNest RX3 28 yX2_init RX3) (by decide +kernel)), va_AO.of (hts (.arrayOver (.object RX1)) (by decide +kernel))⟩, va_Nw.of rfl (hts (.methodLinkNest RX3 9 yX1_init RX3) (by decide +kernel)), va_Nw.of rfl (hts (.methodLinkNest RX0 15 yX1_init RX3) (by decide +kernel)),
   va_Nw.of rfl (hts (.methodLinkNest RX1 70 yX3_isWithin RX3) (by decide +kernel)), va_Nw.of rfl (hts (.methodLinkNest RX1 99 yX3_isGust RX3) (by decide +kernel)), trivial⟩
theorem law_F {s : State} {args : Array Value} (hts : ∀ w ∈ lw_tbl, w.before args s = true) (hg : (Jvm.Cond.and given_1 narrow_1).before args s = true) : SF (fun q => s.heap.size ≤ q) s s.heap := by
  have hs := flat_of_before _ hg
  have hA : ∀ a : Nat, a < s.heap.size → ¬ s.heap.size ≤ a := fun a h z => absurd h (by omega)
  have hini := hts (.initialized RX3) (by decide +kernel)
  refine ⟨?_, ?_, va_Nw.of rfl (hts (.fieldLinkNest RX1 93 RX3 "LEAST_SETTING" "[I" RX3) (by decide +kernel)), va_Nw.of rfl (hts (.fieldLinkNest RX1 96 RX3 "MOST_SETTING" "[I" RX3) (by decide +kernel))⟩
  · obtain ⟨t, h1, h2⟩ := va_Tof (s := s) (args := args) (tm := .static RX3 "LEAST_SETTING" "[I") (ty := .int) (N := 3) (f := fun j => .int (jj (slj j))) (A := fun q => s.heap.size ≤ q) (by omega) (hs _ (by decide +kernel)) (va_eqt (hs (.eq (.length (.static "UmbrellaQueue" "LEAST_SETTING" "[I")) (.int 3)) (by decide +kernel))) (fun j hj => by
      have h3 : j = 0 ∨ j = 1 ∨ j = 2 := by omega
      rcases h3 with rfl | rfl | rfl
      · exact va_eqt (hs (.eq (.elem (.static "UmbrellaQueue" "LEAST_SETTING" "[I") (.int 0)) (.int 0)) (by decide +kernel))
      · exact va_eqt (hs (.eq (.elem (.static "UmbrellaQueue" "LEAST_SETTING" "[I") (.int 1)) (.int 1)) (by decide +kernel))
      · exact va_eqt (hs (.eq (.elem (.static "UmbrellaQueue" "LEAST_SETTING" "[I") (.int 2)) (.int 0)) (by decide +kernel))) hA
    exact ⟨t, va_Zof (hts (.laysStatic RX3 "LEAST_SETTING" "[I") (by decide +kernel)) hini h1 hA, h2⟩
  · obtain ⟨t, h1, h2⟩ := va_Tof (s := s) (args := args) (tm := .static RX3 "MOST_SETTING" "[I") (ty := .int) (N := 3) (f := fun j => .int (jj (shj j))) (A := fun q => s.heap.size ≤ q) (by omega) (hs _ (by decide +kernel)) (va_eqt (hs (.eq (.length (.static "UmbrellaQueue" "MOST_SETTING" "[I")) (.int 3)) (by decide +kernel))) (fun j hj => by
      have h3 : j = 0 ∨ j = 1 ∨ j = 2 := by omega
      rcases h3 with rfl | rfl | rfl
      · exact va_eqt (hs (.eq (.elem (.static "UmbrellaQueue" "MOST_SETTING" "[I") (.int 0)) (.int 50)) (by decide +kernel))
      · exact va_eqt (hs (.eq (.elem (.static "UmbrellaQueue" "MOST_SETTING" "[I") (.int 1)) (.int 4)) (by decide +kernel))
      · exact va_eqt (hs (.eq (.elem (.static "UmbrellaQueue" "MOST_SETTING" "[I") (.int 2)) (.int 99)) (by decide +kernel))) hA
    exact ⟨t, va_Zof (hts (.laysStatic RX3 "MOST_SETTING" "[I") (by decide +kernel)) hini h1 hA, h2⟩
theorem law_C {p : Program} {s : State} {m : MethodId} {meth : Method} {c : Code} {b L : Nat} {xs : Nat → Int32} (C0 : lw_At p s m meth c b L xs) : ∃ (D : va_G) (cI cC cS : ClassId), Cx p s m #[Value.ref b] meth c cL_law 12 R_law wsL_law D (tz cI cC cS) (fun q => s.heap.size ≤ q) ret := by
  obtain ⟨h1, h2, h3, h4, h5, h6, h7, h8, h9, h10⟩ := C0
  obtain ⟨D, cI, cC, cS, hK⟩ := law_K h6
  exact ⟨D, cI, cC, cS, h1, h2, h4, h5, fun w h => h6 w (wsL_law_in w h), hK, fun q h => h, h3, h9, law_N h6, law_F h6 h10⟩
def Xs (xs : Nat → Int32) (j : Int) : Int := (xs j.toNat).toInt
theorem Xs_b (xs : Nat → Int32) (j : Int) : -2147483648 ≤ Xs xs j ∧ Xs xs j ≤ 2147483647 := ⟨jj_lo _, jj_hi _⟩
theorem va_A_nil {b sz : Nat} (h : b < sz) : ¬ va_A [] sz b := by
  rintro (⟨k, e, hk⟩ | h2)
  · simp at hk
  · omega
/-- what the script's reader starts from -/
def Px (D : va_G) (tys : List (ClassId × FieldType)) (sz : Nat) (b L : Nat) (xs : Nat → Int32) (U : State) : Prop := pW D tys sz [] U ∧ va_X b L xs U U.heap ∧ b < U.heap.size
theorem px_blind {D : va_G} {tys : List (ClassId × FieldType)} {sz b L : Nat} {xs : Nat → Int32} {av : List Value} : FrameBlind (va_Pc av (Px D tys sz b L xs)) := fun a U g mk q => by
  obtain ⟨q0, q1, q2, q3⟩ := q
  have h1 := pre_blind (D := D) (tys := tys) (sz := sz) (w0 := []) (av := av) a U g mk ⟨q0, q1⟩
  exact ⟨q0, h1.2, va_X.moved (u := U) (U := U.calling g mk a) (Vm.Alike.refl U.vm) q2, q3⟩
def rL_cell : Room := { frames := 0, cells := 0, slots := 0, locals := 0 }
theorem fL_cell : Fc yL_cell wsL_cell rL_cell cL_cell 2 (some .int) 2 := ⟨⟨_, rfl⟩, rfl, rfl, by decide +kernel, by decide +kernel, by decide +kernel⟩
theorem kL_cell (l : Launch) (D : va_G) (cI cC cS : ClassId) (b L : Nat) (xs : Nat → Int32) (j : Int) (hj : 0 ≤ j ∧ j < L) (hL : L ≤ 260) (sz : Nat) : Met l yL_cell wsL_cell rL_cell (va_Pc [.ref b, .int (jj j)] (Px D (tz cI cC cS) sz b L xs)) (Qi D (tz cI cC cS) (Xs xs j) [] (va_A [] sz)) 0 0 (va_A [] sz) := by
  refine Met.ofW (cc := cL_cell) (maxL := 2) (ret := some .int) (by decide) rfl ?_
  intro p e s m args below meth c s₁ B hml hv
  obtain ⟨rfl, ⟨hsz, hP, hK, hD0, hN, hF⟩, hX, hb⟩ := hv
  subst hsz
  rw [lg_entry_eq]
  have C : Cx p s m _ meth c cL_cell 2 yL_cell.cls wsL_cell D (tz cI cC cS) (va_A [] s.heap.size) (some .int) := ⟨B.exec, B.bytes, hml, findClass_of_methodNamed B.named, atoms_spec (ws := wsL_cell) B.pre, hK, fun q h => Or.inr h, B.returns, B.notSynchronized, hN, hF⟩
  have w : Wd D (va_A [] s.heap.size) s [] s.heap [] := ⟨hP, hD0.self, va_S.rf⟩
  have hl := lv_entry (n := 2) [Value.ref b, .int (jj j)] (Nat.le_of_ble_eq_true rfl)
  revert hl
  generalize ((lg_sl [Value.ref b, .int (jj j)] ++ List.replicate (2 - (lg_sl [Value.ref b, .int (jj j)]).length) Slot.unset).toArray) = ls
  intro hl
  have hl : lv_has ls 2 [(0, .ref b), (1, .int (jj j))] := hl
  refine q_iload_n C hl dL_cell_0 rfl 1 rfl ?_
  refine q_aload_n C hl dL_cell_1 rfl 0 rfl ?_
  refine va_slen C.1 C.2.1 hX hb (va_A_nil hb) w.2.2 dL_cell_2 ?_
  rw [jj_ofNat L]
  refine q_icmp_ge (tgt := 12) C dL_cell_3 (by decide) ⟨by omega, by omega⟩ ⟨by omega, by omega⟩ (fun z => absurd z (by omega)) (fun _ => ?_)
  refine q_aload_n C hl dL_cell_6 rfl 0 rfl ?_
  refine q_iload_n C hl dL_cell_7 rfl 1 rfl ?_
  have e1 := jj_cl (i := j) hj.1 (by omega)
  refine va_sld C.1 C.2.1 hX hb (va_A_nil hb) w.2.2 (jj_in hj.1 hj.2 (by omega)) dL_cell_8 ?_
  have e2 : xs (jj j).toNatClampNeg = jj (Xs xs j) := by
    unfold Xs; rw [jj_of, show (jj j).toNatClampNeg = j.toNat by omega]
  rw [e2]
  refine q_goto (tgt := 20) C dL_cell_9 (by decide) ?_
  exact q_iret C w dL_cell_20 rfl rfl
section QL
variable {p : Program} {l : Launch} {e : Env} {R : Room} {s : State} {m : MethodId} {args : Array Value} {below : List Frame} {meth : Method} {c : Code} {H : Heap} {locs : List Loc} {cells slots : Nat} {Q : State → Prop}
variable {D : va_G} {ret0 : Option FieldType} {pc : Nat} {ls : Array Slot} {rest : List Value} {ws : va_W} {cI cC cS : ClassId}
theorem q_cell {b L : Nat} {xs : Nat → Int32} {j : Int} {lv : List (Nat × Value)} (C : Cx p s m args meth c cL_law 12 RL wsL_law D (tz cI cC cS) (fun a => s.heap.size ≤ a) ret0) (w : Wd D (fun a => s.heap.size ≤ a) s ws H locs) (hX : va_X b L xs s s.heap) (hbl : b < s.heap.size) (hL : L ≤ 260) (hj : 0 ≤ j ∧ j < L) (hl : lv_has ls 12 lv) (hcat : (rest.map fun v => v.category).sum ≤ 8) (hR : 1 ≤ R.frames ∧ 21 ≤ R.locals) (hdg : decode cL_law pc = .ok (.invokestatic 97, 3)) (hcs : cells ≤ R.cells ∧ slots ≤ R.slots)
    (kk : ∀ (H : Heap) (locs : List Loc), Wd D (fun a => s.heap.size ≤ a) s ws H locs → W p l e R s m args below meth c H locs cells slots Q (F0 m (pc + 3) ls (.int (jj (Xs xs j)) :: rest))) : W p l e R s m args below meth c H locs cells slots Q (F0 m pc ls (.int (jj j) :: .ref b :: rest)) := by
  obtain ⟨⟨wy', hwy⟩, hrc, hrs, hd⟩ := fL_cell
  refine q_runi (ev := Xs xs j) (wc := []) (w1 := []) (ws' := ws) C w fr_nil (va_runS (As := [.ref b, .int (jj j)]) (rest := rest) C.fix (kL_cell l D cI cC cS b L xs j hj hL H.size) (va_cwS 2 C.ts gL_law_L_cell hwy hrc hrs hd ⟨by show 0 + 1 ≤ _; omega, by show 8 + (2 + 11) + 0 ≤ _; omega⟩) ⟨px_blind, fun U hU hW => ?_⟩ rfl rfl hl.1 rfl (lv_room hcat) hdg hcs) kk
  have h1 := pre_here C w fr_nil (av := [.ref b, .int (jj j)]) U hU hW
  refine ⟨h1.1, h1.2, ?_, ?_⟩
  · rw [hU]; exact (hX.kept (w.2.2.2.1 b hbl (by omega))).moved hW.alike
  · rw [hU]; exact Nat.lt_of_lt_of_le hbl w.2.2.1
end QL
theorem hstep_d {σ : Int → Int} {p : Int} {x : H4} (h : 0 ≤ x.2.2.2 ∧ x.2.2.2 ≤ 4) : 0 ≤ (hstep σ p x).2.2.2 ∧ (hstep σ p x).2.2.2 ≤ 4 := by
  unfold hstep
  split
  · exact rcP_b h
  · exact und_b (rcP_b h)
theorem hbs_d {σ : Int → Int} {hs : Nat → Nat} {ha : Nat → Nat → Nat} {η : Nat → Int → Int} {dp : Int} (h : 0 ≤ dp ∧ dp ≤ 4) (i : Int) : 0 ≤ (hbs σ hs ha η dp i).2.2.2 ∧ (hbs σ hs ha η dp i).2.2.2 ≤ 4 := by
  rcases Int.le_total i 0 with c | c
  · unfold hbs; rw [it_z _ _ c]; exact h
  · exact it_ind (hstep σ) (hs, ha, η, dp) (fun _ x => 0 ≤ x.2.2.2 ∧ x.2.2.2 ≤ 4) i h (fun j x _ _ hx => hstep_d hx) i c (Int.le_refl i)
theorem st0_J : Jv st0 := ⟨st0_I, fun x y x0 x1 => absurd x1 (by unfold st0; simp; omega), fun x x0 x1 => absurd x1 (by unfold st0; simp; omega), by unfold Acc st0; simp⟩
