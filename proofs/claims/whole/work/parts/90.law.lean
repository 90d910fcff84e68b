/-! The law: what holds in its walk. -/
def R_law : String := "UmbrellaQueueLaw"
def lw_At (p : Program) (s : State) (m : MethodId) (meth : Method) (c : Code) (b L : Nat) (xs : Nat → Int32) : Prop :=
  p.tables.exec = Jvm.exec ∧ c.code = code ∧ meth.sig.returnType = ret ∧ c.maxLocals = 4 ∧ s.vm.findClass R_law = some m.cls ∧ (∀ w ∈ lw_tbl, w.before #[Value.ref b] s = true) ∧ va_X b L xs s s.heap ∧ b < s.heap.size ∧ meth.locks = false ∧ (Jvm.Cond.and given_1 narrow_1).before #[Value.ref b] s = true
theorem law_K {s : State} {args : Array Value} (hts : ∀ w ∈ lw_tbl, w.before args s = true) : ∃ (D : va_G) (cI cC cS : ClassId), va_K D vwCl (tz cI cC cS) s := by
  obtain ⟨c0, i0, h0⟩ := u_known hts inX0 (hts (.instantiable RX0 2) (by decide +kernel))
  obtain ⟨c1, i1, h1⟩ := u_known hts inX1 (hts (.instantiable RX1 17) (by decide +kernel))
  obtain ⟨c2, i2, h2⟩ := u_known hts inX2 (hts (.instantiable RX2 7) (by decide +kernel))
  obtain ⟨c3, i3, h3⟩ := u_known hts inX3 (hts (.instantiable RX3 7) (by decide +kernel))
  obtain ⟨c4, i4, h4⟩ := u_known hts inX4 (hts (.instantiable RX4 16) (by decide +kernel))
  obtain ⟨cI, kI, pI, a1, a2, a3⟩ := Cond.arrayClass_spec (hts (.arrayClass .int) (by decide +kernel))
  obtain ⟨cC, kC, pC, b1, b2, b3⟩ := Cond.arrayClass_spec (hts (.arrayClass .char) (by decide +kernel))
  obtain ⟨pS, cS, kS, d1, d2, d3, d4, d5⟩ := Cond.arrayOver_spec (hts (.arrayOver (.object RX1)) (by decide +kernel))
  refine ⟨(fun k => match k with | 0 => c0 | 1 => c1 | 2 => c2 | 3 => c3 | _ => c4, fun k => match k with | 0 => i0 | 1 => i1 | 2 => i2 | 3 => i3 | _ => i4), cI, cC, cS, fun k q hq => ?_, fun k q hq => ?_⟩
  · match k with
    | 0 => cases hq; exact h0
    | 1 => cases hq; exact h1
    | 2 => cases hq; exact h2
    | 3 => cases hq; exact h3
    | 4 => cases hq; exact h4
    | n + 5 => exact absurd hq (by simp)
  · match k with
    | 0 => cases hq; exact ⟨fun n z => ⟨fun k h => (by cases h), kI, a2, pI, a3⟩, a1⟩
    | 1 => cases hq; exact ⟨fun n z => ⟨fun k h => (by cases h), kC, b2, pC, b3⟩, b1⟩
    | 2 => cases hq; exact ⟨fun n z => ⟨fun k h => (by cases h), kS, d3, pS, d4⟩, kS, pS, d3, d4, d1, d5⟩
    | n + 3 => exact absurd hq (by simp [tz])
theorem law_N {s : State} {args : Array Value} (hts : ∀ w ∈ lw_tbl, w.before args s = true) : NW s :=
  ⟨⟨va_Nw.of rfl (hts (.methodLinkNest RX3 28 yX2_init RX3) (by decide +kernel)), va_AO.of (hts (.arrayOver (.object RX1)) (by decide +kernel))⟩, va_Nw.of rfl (hts (.methodLinkNest RX3 9 yX1_init RX3) (by decide +kernel)), va_Nw.of rfl (hts (.methodLinkNest RX0 15 yX1_init RX3) (by decide +kernel)),
   va_Nw.of rfl (hts (.methodLinkNest RX1 70 yX3_isWithin RX3) (by decide +kernel)), va_Nw.of rfl (hts (.methodLinkNest RX1 99 yX3_isGust RX3) (by decide +kernel)), va_Nw.of rfl (hts (.methodLinkNest RX2 53 yX3_isWithin RX3) (by decide +kernel))⟩
theorem law_F {s : State} {args : Array Value} (hts : ∀ w ∈ lw_tbl, w.before args s = true) (hg : (Jvm.Cond.and given_1 narrow_1).before args s = true) : SF (fun q => s.heap.size ≤ q) s s.heap := by
  have hs := flat_of_before _ hg
  have hA : ∀ a : Nat, a < s.heap.size → ¬ s.heap.size ≤ a := fun a h z => absurd h (by omega)
  have hini := hts (.initialized RX3) (by decide +kernel)
  refine ⟨?_, ?_, va_Nw.of rfl (hts (.fieldLinkNest RX1 93 RX3 "LEAST_SETTING" "[I" RX3) (by decide +kernel)), va_Nw.of rfl (hts (.fieldLinkNest RX1 96 RX3 "MOST_SETTING" "[I" RX3) (by decide +kernel))⟩
  · obtain ⟨t, h1, h2⟩ := va_Tof (s := s) (args := args) (tm := .static RX3 "LEAST_SETTING" "[I") (ty := .int) (N := 3) (f := fun j => .int (jj (slj j))) (A := fun q => s.heap.size ≤ q) (by omega) (hs _ (by decide +kernel)) (va_eqt (hs (.eq (.length (.static "UmbrellaQueue" "LEAST_SETTING" "[I")) (.int 3)) (by decide +kernel))) (fun j hj => by
      have h3 : j = 0 ∨ j = 1 ∨ j = 2 := by omega
      rcases h3 with rfl | rfl | rfl
      · exact va_eqt (hs (.eq (.elem (.static "UmbrellaQueue" "LEAST_SETTING" "[I") (.int 0)) (.int 0)) (by decide +kernel))
      · exact va_eqt (hs (.eq (.elem (.static "UmbrellaQueue" "LEAST_SETTING" "[I") (.int 1)) (.int 1)) (by decide +kernel))
      · exact va_eqt (hs (.eq (.elem (.static "UmbrellaQueue" "LEAST_SETTING" "[I") (.int 2)) (.int 0)) (by decide +kernel))) hA
    exact ⟨t, va_Zof (hts (.laysStatic RX3 "LEAST_SETTING" "[I") (by decide +kernel)) hini h1 hA, h2⟩
  · obtain ⟨t, h1, h2⟩ := va_Tof (s := s) (args := args) (tm := .static RX3 "MOST_SETTING" "[I") (ty := .int) (N := 3) (f := fun j => .int (jj (shj j))) (A := fun q => s.heap.size ≤ q) (by omega) (hs _ (by decide +kernel)) (va_eqt (hs (.eq (.length (.static "UmbrellaQueue" "MOST_SETTING" "[I")) (.int 3)) (by decide +kernel))) (fun j hj => by
      have h3 : j = 0 ∨ j = 1 ∨ j = 2 := by omega
      rcases h3 with rfl | rfl | rfl
      · exact va_eqt (hs (.eq (.elem (.static "UmbrellaQueue" "MOST_SETTING" "[I") (.int 0)) (.int 50)) (by decide +kernel))
      · exact va_eqt (hs (.eq (.elem (.static "UmbrellaQueue" "MOST_SETTING" "[I") (.int 1)) (.int 4)) (by decide +kernel))
      · exact va_eqt (hs (.eq (.elem (.static "UmbrellaQueue" "MOST_SETTING" "[I") (.int 2)) (.int 99)) (by decide +kernel))) hA
    exact ⟨t, va_Zof (hts (.laysStatic RX3 "MOST_SETTING" "[I") (by decide +kernel)) hini h1 hA, h2⟩
theorem law_C {p : Program} {s : State} {m : MethodId} {meth : Method} {c : Code} {b L : Nat} {xs : Nat → Int32} (C0 : lw_At p s m meth c b L xs) : ∃ (D : va_G) (cI cC cS : ClassId), Cx p s m #[Value.ref b] meth c cL_law 4 R_law wsL_law D (tz cI cC cS) (fun q => s.heap.size ≤ q) ret := by
  obtain ⟨h1, h2, h3, h4, h5, h6, h7, h8, h9, h10⟩ := C0
  obtain ⟨D, cI, cC, cS, hK⟩ := law_K h6
  exact ⟨D, cI, cC, cS, h1, h2, h4, h5, fun w h => h6 w (wsL_law_in w h), hK, fun q h => h, h3, h9, law_N h6, law_F h6 h10⟩
