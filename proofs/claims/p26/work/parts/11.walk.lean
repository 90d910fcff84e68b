/-! What holds in a walk; the world; calls. -/
/-- the words of the calls between nest mates -/
def NW (U : State) : Prop :=
  (va_Nw (.methodLinkNest RX3 28 yX2_init RX3) U ∧ va_AO RX1 U) ∧ va_Nw (.methodLinkNest RX3 9 yX1_init RX3) U ∧ va_Nw (.methodLinkNest RX0 15 yX1_init RX3) U ∧
  va_Nw (.methodLinkNest RX1 70 yX3_isWithin RX3) U ∧ va_Nw (.methodLinkNest RX1 99 yX3_isGust RX3) U ∧ True
theorem NW.warm {s U : State} (hW : s.WarmedH U.vm) (h : NW s) : NW U :=
  ⟨⟨va_Nw.warmM hW h.1.1, h.1.2.moved hW.alike⟩, va_Nw.warmM hW h.2.1, va_Nw.warmM hW h.2.2.1, va_Nw.warmM hW h.2.2.2.1, va_Nw.warmM hW h.2.2.2.2.1, trivial⟩
theorem NW.vm {s U : State} (hv : s.vm = U.vm) (h : NW s) : NW U :=
  ⟨⟨va_tabs rfl hv h.1.1, h.1.2.moved (hv ▸ Vm.Alike.refl s.vm)⟩, va_tabs rfl hv h.2.1, va_tabs rfl hv h.2.2.1, va_tabs rfl hv h.2.2.2.1, va_tabs rfl hv h.2.2.2.2.1, trivial⟩
/-- the class's two static rows -/
def slj (j : Nat) : Int := if j = 1 then 1 else 0
def shj (j : Nat) : Int := if j = 0 then 50 else if j = 1 then 4 else 99
def SF (A : Nat → Prop) (U : State) (H : Heap) : Prop :=
  (∃ t : Nat, va_Z RX3 "LEAST_SETTING" "[I" (.ref t) A U H ∧ va_T .int t 3 (fun j => .int (jj (slj j))) A U H) ∧
  (∃ t : Nat, va_Z RX3 "MOST_SETTING" "[I" (.ref t) A U H ∧ va_T .int t 3 (fun j => .int (jj (shj j))) A U H) ∧
  va_Nw (.fieldLinkNest RX1 93 RX3 "LEAST_SETTING" "[I" RX3) U ∧ va_Nw (.fieldLinkNest RX1 96 RX3 "MOST_SETTING" "[I" RX3) U
theorem SF.warm {A : Nat → Prop} {s U : State} {H : Heap} (hW : s.WarmedH U.vm) (h : SF A s H) : SF A U H := by
  obtain ⟨⟨t, h1, h2⟩, ⟨t', h3, h4⟩, h5, h6⟩ := h
  exact ⟨⟨t, h1.moved hW.alike, h2.moved hW.alike⟩, ⟨t', h3.moved hW.alike, h4.moved hW.alike⟩, va_Nw.warmF hW h5, va_Nw.warmF hW h6⟩
theorem SF.vm {A : Nat → Prop} {s U : State} {H : Heap} (hv : s.vm = U.vm) (h : SF A s H) : SF A U H := by
  obtain ⟨⟨t, h1, h2⟩, ⟨t', h3, h4⟩, h5, h6⟩ := h
  have ha : s.vm.Alike U.vm := hv ▸ Vm.Alike.refl s.vm
  exact ⟨⟨t, h1.moved ha, h2.moved ha⟩, ⟨t', h3.moved ha, h4.moved ha⟩, va_tabs rfl hv h5, va_tabs rfl hv h6⟩
theorem SF.kept {A : Nat → Prop} {s : State} {H H1 : Heap} (h : SF A s H) (hq : ∀ a : Nat, a < H.size → ¬ A a → H1[a]? = H[a]?) : SF A s H1 := by
  obtain ⟨⟨t, h1, h2⟩, ⟨t', h3, h4⟩, h5, h6⟩ := h
  exact ⟨⟨t, h1.kept hq, h2.kept hq⟩, ⟨t', h3.kept hq, h4.kept hq⟩, h5, h6⟩
theorem SF.narrow {A B : Nat → Prop} {s : State} {H : Heap} (h : SF A s H) (hAB : ∀ q, B q → A q) : SF B s H := by
  obtain ⟨⟨t, h1, h2⟩, ⟨t', h3, h4⟩, h5, h6⟩ := h
  exact ⟨⟨t, h1.narrow hAB, h2.narrow hAB⟩, ⟨t', h3.narrow hAB, h4.narrow hAB⟩, h5, h6⟩
def Cx (p : Program) (s : State) (m : MethodId) (args : Array Value) (meth : Method) (c : Code) (cc : ByteArray) (nL : Nat) (own : String) (Ts : List Cond) (D : va_G) (tys : List (ClassId × FieldType)) (A : Nat → Prop) (ret : Option FieldType) : Prop :=
  p.tables.exec = Jvm.exec ∧ c.code = cc ∧ c.maxLocals = nL ∧ s.vm.findClass own = some m.cls ∧ (∀ w ∈ Ts, w.before args s = true) ∧ va_K D vwCl tys s ∧ (∀ q, s.heap.size ≤ q → A q) ∧ meth.sig.returnType = ret ∧ meth.locks = false ∧ NW s ∧ SF A s s.heap
def Wd (D : va_G) (A : Nat → Prop) (s : State) (ws : va_W) (H : Heap) (locs : List Loc) : Prop := va_P D vwCl ws H ∧ va_D A ws ∧ va_S A s.heap H locs
def pW (D : va_G) (tys : List (ClassId × FieldType)) (sz : Nat) (ws : va_W) (U : State) : Prop := U.heap.size = sz ∧ va_P D vwCl ws U.heap ∧ va_K D vwCl tys U ∧ va_D (fun _ => True) ws ∧ NW U ∧ SF (va_A ws sz) U U.heap
def bW (D : va_G) (tys : List (ClassId × FieldType)) (A : Nat → Prop) (ws : va_W) (t : State) : Prop := va_P D vwCl ws t.heap ∧ va_K D vwCl tys t ∧ va_D A ws
def Qi (D : va_G) (tys : List (ClassId × FieldType)) (ev : Int) (w1 : va_W) (A : Nat → Prop) : Array Value → State → Outcome → State → Prop :=
  va_Qi (fun (r : Int32) (_ : Unit) => r = jj ev) (fun _ t => bW D tys A w1 t) A
def Qv (D : va_G) (tys : List (ClassId × FieldType)) (w1 : va_W) (A : Nat → Prop) : Array Value → State → Outcome → State → Prop :=
  va_Qv (fun (_ : Unit) => True) (fun _ t => bW D tys A w1 t) A
def Qr (D : va_G) (tys : List (ClassId × FieldType)) (ra : Nat) (w1 : va_W) (A : Nat → Prop) : Array Value → State → Outcome → State → Prop :=
  va_Qr (fun (_ : Unit) => True) (fun _ a t => a = ra ∧ bW D tys A w1 t) A
/-- a method's contract: it answers ev, the world w0 becomes w1 -/
def Ki (l : Launch) (y : MethodName) (ws : List Cond) (rm : Room) (D : va_G) (tys : List (ClassId × FieldType)) (av : List Value) (w0 : va_W) (ev : Int) (w1 : va_W) : Prop :=
  ∀ sz : Nat, Met l y ws rm (va_Pc av (pW D tys sz w0)) (Qi D tys ev w1 (va_A w0 sz)) 0 0 (va_A w0 sz)
def Kv (l : Launch) (y : MethodName) (ws : List Cond) (rm : Room) (D : va_G) (tys : List (ClassId × FieldType)) (av : List Value) (w0 : va_W) (w1 : va_W) : Prop :=
  ∀ sz : Nat, Met l y ws rm (va_Pc av (pW D tys sz w0)) (Qv D tys w1 (va_A w0 sz)) 0 0 (va_A w0 sz)
def Kr (l : Launch) (y : MethodName) (ws : List Cond) (rm : Room) (D : va_G) (tys : List (ClassId × FieldType)) (av : List Value) (w0 : va_W) (ra : Nat) (w1 : va_W) : Prop :=
  ∀ sz : Nat, Met l y ws rm (va_Pc av (pW D tys sz w0)) (Qr D tys ra w1 (va_A w0 sz)) 0 0 (va_A w0 sz)
/-- what is known of a method's code -/
def Fc (y : MethodName) (ws : List Cond) (rm : Room) (bytes : ByteArray) (nL : Nat) (ret : Option FieldType) (n : Nat) : Prop :=
  (∃ ws', ws = Cond.code y bytes nL ret :: ws') ∧ rm.cells = 0 ∧ rm.slots = 0 ∧ y.cls ≠ "java/lang/invoke/MethodHandle" ∧ y.cls ≠ "java/lang/invoke/VarHandle" ∧ (parseMethodDescriptor y.desc).map (fun d => d.parameters.length) = some n
theorem q_entry {l : Launch} {y : MethodName} {cc : ByteArray} {nL : Nat} {ret : Option FieldType} {ws : List Cond} {rm : Room} {av : List Value} {D : va_G} {tys : List (ClassId × FieldType)} {w0 : va_W} {Qf : (Nat → Prop) → Array Value → State → Outcome → State → Prop} {mc ms : Nat}
    (hy : plainName y.cls = true) (hw : ∃ ws', ws = Cond.code y cc nL ret :: ws') (hlen : (lg_sl av).length ≤ nL)
    (body : ∀ (A : Nat → Prop) (p : Program) (e : Env) (s : State) (m : MethodId) (args : Array Value) (below : List Frame) (meth : Method) (c : Code), Cx p s m args meth c cc nL y.cls ws D tys A ret → (y.name = "<init>" → meth.name = "<init>") → Wd D A s w0 s.heap [] → ∀ ls : Array Slot, lv_has ls nL (lv_args 0 av) →
      W p l e rm s m args below meth c s.heap [] 0 0 (MQ below (Qf A) args s mc ms A) (F0 m 0 ls [])) (sz : Nat) :
    Met l y ws rm (va_Pc av (pW D tys sz w0)) (Qf (va_A w0 sz)) mc ms (va_A w0 sz) := by
  obtain ⟨ws', hw⟩ := hw
  refine Met.ofW (cc := cc) (maxL := nL) (ret := ret) hy hw ?_
  intro p e s m args below meth c s₁ B hml hv
  obtain ⟨rfl, hsz, hP, hK, hD0, hN, hF⟩ := hv
  subst hsz
  rw [lg_entry_eq]
  refine body (va_A w0 s.heap.size) p e s m _ below meth c ⟨B.exec, B.bytes, hml, findClass_of_methodNamed B.named, atoms_spec (ws := ws) B.pre, hK, fun q h => Or.inr h, B.returns, B.notSynchronized, hN, hF⟩ (fun h => ?_) ⟨hP, hD0.self, va_S.rf⟩ _ (lv_entry av hlen)
  rw [← h]
  exact (name_of_methodNamed B.named B.method).1
/-! the world, by its members -/
theorem vP_iff {D : va_G} {cl : List vw_C} {ws : va_W} {H : Heap} : va_P D cl ws H ↔ ∀ q ∈ ws, va_at D cl q H :=
  ⟨fun h q hq => by obtain ⟨i, hi⟩ := List.getElem?_of_mem hq; exact h i q hi, fun h k q hk => h q (List.mem_of_getElem? hk)⟩
theorem vD_iff {A : Nat → Prop} {ws : va_W} : va_D A ws ↔ ws.Pairwise (fun a b => a.1 ≠ b.1) ∧ ∀ q ∈ ws, A q.1 := by
  constructor
  · intro h
    refine ⟨List.pairwise_iff_getElem.mpr (fun i j hi hj hij e => ?_), fun q hq => ?_⟩
    · have := h.1 i j _ _ (List.getElem?_eq_getElem hi) (List.getElem?_eq_getElem hj) e
      omega
    · obtain ⟨i, hi⟩ := List.getElem?_of_mem hq
      exact h.2 i q hi
  · rintro ⟨h1, h2⟩
    refine ⟨fun i j p q hp hq e => ?_, fun k q hk => h2 q (List.mem_of_getElem? hk)⟩
    obtain ⟨hi, rfl⟩ := List.getElem?_eq_some_iff.mp hp
    obtain ⟨hj, rfl⟩ := List.getElem?_eq_some_iff.mp hq
    rw [List.pairwise_iff_getElem] at h1
    rcases Nat.lt_trichotomy i j with h | h | h
    · exact absurd e (h1 i j hi hj h)
    · exact h
    · exact absurd e.symm (h1 j i hj hi h)
theorem vP_perm {D : va_G} {cl : List vw_C} {ws ws' : va_W} {H : Heap} (hp : ws.Perm ws') (h : va_P D cl ws H) : va_P D cl ws' H :=
  vP_iff.mpr (fun q hq => vP_iff.mp h q (hp.mem_iff.mpr hq))
theorem vD_perm {A : Nat → Prop} {ws ws' : va_W} (hp : ws.Perm ws') (h : va_D A ws) : va_D A ws' := by
  rw [vD_iff] at h ⊢
  exact ⟨(hp.pairwise_iff (fun hab => Ne.symm hab)).mp h.1, fun q hq => h.2 q (hp.mem_iff.mpr hq)⟩
/-- the part wc of ws becomes w1: ws becomes ws' -/
def Fr (ws wc w1 ws' : va_W) : Prop := ∃ v : va_W, ws.Perm (wc ++ v) ∧ (w1 ++ v).Perm ws'
theorem fr_all {wc w1 : va_W} : Fr wc wc w1 w1 := ⟨[], by rw [List.append_nil], by rw [List.append_nil]⟩
theorem fr_hd {wc w1 v : va_W} : Fr (wc ++ v) wc w1 (w1 ++ v) := ⟨v, List.Perm.refl _, List.Perm.refl _⟩
theorem fr_mid {u wc w1 v : va_W} : Fr (u ++ (wc ++ v)) wc w1 (u ++ (w1 ++ v)) :=
  ⟨u ++ v, List.perm_append_comm_assoc u wc v, (List.perm_append_comm_assoc u w1 v).symm⟩
theorem fr_P {D : va_G} {cl : List vw_C} {ws wc w1 ws' : va_W} {H : Heap} (fr : Fr ws wc w1 ws') (h : va_P D cl ws H) : va_P D cl wc H := by
  obtain ⟨v, h1, -⟩ := fr
  exact vP_iff.mpr (fun q hq => vP_iff.mp h q (h1.mem_iff.mpr (List.mem_append_left _ hq)))
theorem fr_D {A : Nat → Prop} {ws wc w1 ws' : va_W} (fr : Fr ws wc w1 ws') (h : va_D A ws) : va_D A wc := by
  obtain ⟨v, h1, -⟩ := fr
  have h2 := vD_iff.mp (vD_perm h1 h)
  exact vD_iff.mpr ⟨(List.pairwise_append.mp h2.1).1, fun q hq => h2.2 q (List.mem_append_left _ hq)⟩
theorem fr_F {A : Nat → Prop} {s : State} {ws wc w1 ws' : va_W} {H : Heap} {locs : List Loc} (fr : Fr ws wc w1 ws') (hD : va_D A ws) (hS : va_S A s.heap H locs) (hA : ∀ q, s.heap.size ≤ q → A q) : ∀ q, va_A wc H.size q → A q := by
  intro q hq
  rcases hq with ⟨k, e, hk⟩ | h
  · exact (fr_D fr hD).2 k _ hk
  · exact hA q (Nat.le_trans hS.1 h)
theorem wd_frame {D : va_G} {A : Nat → Prop} {s : State} {ws wc w1 ws' : va_W} {H H1 : Heap} {locs locs1 : List Loc} (fr : Fr ws wc w1 ws') (w : Wd D A s ws H locs) (hA : ∀ q, s.heap.size ≤ q → A q)
    (hk : ∀ q : Nat, q < H.size → ¬ va_A wc H.size q → H1[q]? = H[q]?) (hP1 : va_P D vwCl w1 H1) (hD1 : va_D (va_A wc H.size) w1) (hS1 : va_S A s.heap H1 locs1) : Wd D A s ws' H1 locs1 := by
  have hF := fr_F fr w.2.1 w.2.2 hA
  obtain ⟨v, h1, h2⟩ := fr
  have hP := vP_iff.mp (vP_perm h1 w.1)
  have hD := vD_iff.mp (vD_perm h1 w.2.1)
  obtain ⟨hd1, hd2, hd3⟩ := List.pairwise_append.mp hD.1
  have hD1' := vD_iff.mp hD1
  have hout : ∀ b ∈ v, ¬ va_A wc H.size b.1 := by
    intro b hb hq
    rcases hq with ⟨k, e, hk⟩ | h
    · exact hd3 _ (List.mem_of_getElem? hk) b hb rfl
    · exact absurd (hP b (List.mem_append_right _ hb)).lt (Nat.not_lt.mpr h)
  refine ⟨vP_perm h2 (vP_iff.mpr (fun q hq => ?_)), vD_perm h2 (vD_iff.mpr ⟨List.pairwise_append.mpr ⟨hD1'.1, hd2, fun a ha b hb e => ?_⟩, fun q hq => ?_⟩), hS1⟩
  · rcases List.mem_append.mp hq with h | h
    · exact vP_iff.mp hP1 q h
    · have hq2 := hP q (List.mem_append_right _ h)
      exact hq2.kept (hk q.1 hq2.lt (hout q h))
  · exact hout b hb (e ▸ hD1'.2 a ha)
  · rcases List.mem_append.mp hq with h | h
    · exact hF _ (hD1'.2 q h)
    · exact hD.2 q (List.mem_append_right _ h)
theorem wd_perm {D : va_G} {A : Nat → Prop} {s : State} {ws ws' : va_W} {H : Heap} {locs : List Loc} (hp : ws.Perm ws') (w : Wd D A s ws H locs) : Wd D A s ws' H locs := ⟨vP_perm hp w.1, vD_perm hp w.2.1, w.2.2⟩
/-- a row of cells counts below its length alone -/
theorem at_ac {D : va_G} {cl : List vw_C} {a n : Nat} {cA : ClassId} {f g : Int → Int} {H : Heap} (hfg : ∀ k : Int, 0 ≤ k → k < n → f k = g k) (h : va_at D cl (a, .inl (cA, n, .inl (ac f))) H) : va_at D cl (a, .inl (cA, n, .inl (ac g))) H := by
  have e : vp_cell cA (n, .inl (ac f)) = vp_cell cA (n, .inl (ac g)) := by
    show arrV cA n (fun j => .int (ac f j)) = arrV cA n (fun j => .int (ac g j))
    unfold arrV ac
    congr 1
    apply Array.ext
    · simp
    · intro i h1 h2
      have hi : i < n := by simpa using h1
      simp only [Array.getElem_ofFn]
      rw [hfg (i : Int) (by omega) (by omega)]
  show H[a]? = some (vp_cell cA (n, .inl (ac g)))
  rw [← e]; exact h
section QQ
variable {p : Program} {l : Launch} {e : Env} {R : Room} {s : State} {m : MethodId} {args : Array Value} {below : List Frame} {meth : Method} {c : Code} {H : Heap} {locs : List Loc} {cells slots : Nat} {Q : State → Prop}
variable {cc : ByteArray} {nL : Nat} {own : String} {Ts : List Cond} {D : va_G} {tys : List (ClassId × FieldType)} {A : Nat → Prop} {ret : Option FieldType} {pc : Nat} {ls : Array Slot} {rest : List Value} {ws wc w1 ws' : va_W}
theorem Cx.fix (C : Cx p s m args meth c cc nL own Ts D tys A ret) : CallFix p m c cc nL s args Ts own := ⟨C.1, C.2.1, C.2.2.1, C.2.2.2.1, C.2.2.2.2.1⟩
theorem Cx.K (C : Cx p s m args meth c cc nL own Ts D tys A ret) : va_K D vwCl tys s := C.2.2.2.2.2.1
theorem Cx.hA (C : Cx p s m args meth c cc nL own Ts D tys A ret) : ∀ q, s.heap.size ≤ q → A q := C.2.2.2.2.2.2.1
theorem Cx.ho (C : Cx p s m args meth c cc nL own Ts D tys A ret) : s.vm.findClass own = some m.cls := C.2.2.2.1
theorem Cx.ts (C : Cx p s m args meth c cc nL own Ts D tys A ret) : ∀ w ∈ Ts, w.before args s = true := C.2.2.2.2.1
theorem Cx.hr (C : Cx p s m args meth c cc nL own Ts D tys A ret) : meth.sig.returnType = ret := C.2.2.2.2.2.2.2.1
theorem Cx.locks (C : Cx p s m args meth c cc nL own Ts D tys A ret) : meth.locks = false := C.2.2.2.2.2.2.2.2.1
theorem Cx.N (C : Cx p s m args meth c cc nL own Ts D tys A ret) : NW s := C.2.2.2.2.2.2.2.2.2.1
theorem Cx.F (C : Cx p s m args meth c cc nL own Ts D tys A ret) : SF A s s.heap := C.2.2.2.2.2.2.2.2.2.2
theorem pre_blind {D : va_G} {tys : List (ClassId × FieldType)} {sz : Nat} {w0 : va_W} {av : List Value} : FrameBlind (va_Pc av (pW D tys sz w0)) := fun a U g mk q => by
  obtain ⟨q0, q1, qP, qK, qD, qN, qF⟩ := q
  exact ⟨q0, q1, qP, va_K.moved (u := U) (U := U.calling g mk a) (Vm.Alike.refl U.vm) qK, qD, NW.vm (s := U) (U := U.calling g mk a) rfl qN, SF.vm (s := U) (U := U.calling g mk a) rfl qF⟩
theorem pre_here (C : Cx p s m args meth c cc nL own Ts D tys A ret) (w : Wd D A s ws H locs) (fr : Fr ws wc w1 ws') {av : List Value} : ∀ U : State, U.heap = H → s.WarmedH U.vm → va_Pc av (pW D tys H.size wc) av.toArray U := fun U hU hW =>
  ⟨rfl, by rw [hU], by rw [hU]; exact fr_P fr w.1, va_K.moved hW.alike C.K, (fr_D fr w.2.1).weaken (fun _ _ _ _ => trivial), NW.warm hW C.N, SF.warm hW (by rw [hU]; exact (C.F.kept w.2.2.2.1).narrow (fr_F fr w.2.1 w.2.2 C.hA))⟩
theorem q_runi {ev : Int} {st0 : List Value} {a : Array Value} (C : Cx p s m args meth c cc nL own Ts D tys A ret) (w : Wd D A s ws H locs) (fr : Fr ws wc w1 ws')
    (hr : va_Run p l e R s m args below meth c H locs cells slots 0 0 (F0 m pc ls st0) rest (Qi D tys ev w1 (va_A wc H.size) a) (va_A wc H.size))
    (kk : ∀ (H1 : Heap) (locs1 : List Loc), Wd D A s ws' H1 locs1 → W p l e R s m args below meth c H1 locs1 cells slots Q (F0 m (pc + 3) ls (.int (jj ev) :: rest))) : W p l e R s m args below meth c H locs cells slots Q (F0 m pc ls st0) := by
  have hF := fr_F fr w.2.1 w.2.2 C.hA
  refine va_calli hr w.2.2 (fun q _ h => hF q h) hF (fun r u t H1 locs1 ht hvm hpost hB hz hk hS => ?_)
  subst hpost
  obtain ⟨hP1, -, hD1⟩ := hB
  rw [ht] at hP1
  exact kk H1 locs1 (wd_frame fr w C.hA hk hP1 hD1 hS)
theorem q_runv {st0 : List Value} {a : Array Value} (C : Cx p s m args meth c cc nL own Ts D tys A ret) (w : Wd D A s ws H locs) (fr : Fr ws wc w1 ws')
    (hr : va_Run p l e R s m args below meth c H locs cells slots 0 0 (F0 m pc ls st0) rest (Qv D tys w1 (va_A wc H.size) a) (va_A wc H.size))
    (kk : ∀ (H1 : Heap) (locs1 : List Loc), Wd D A s ws' H1 locs1 → W p l e R s m args below meth c H1 locs1 cells slots Q (F0 m (pc + 3) ls rest)) : W p l e R s m args below meth c H locs cells slots Q (F0 m pc ls st0) := by
  have hF := fr_F fr w.2.1 w.2.2 C.hA
  refine va_callv hr w.2.2 (fun q _ h => hF q h) hF (fun u t H1 locs1 ht hvm hpost hB hz hk hS => ?_)
  obtain ⟨hP1, -, hD1⟩ := hB
  rw [ht] at hP1
  exact kk H1 locs1 (wd_frame fr w C.hA hk hP1 hD1 hS)
theorem q_runr {ra : Nat} {st0 : List Value} {a : Array Value} (C : Cx p s m args meth c cc nL own Ts D tys A ret) (w : Wd D A s ws H locs) (fr : Fr ws wc w1 ws')
    (hr : va_Run p l e R s m args below meth c H locs cells slots 0 0 (F0 m pc ls st0) rest (Qr D tys ra w1 (va_A wc H.size) a) (va_A wc H.size))
    (kk : ∀ (H1 : Heap) (locs1 : List Loc), Wd D A s ws' H1 locs1 → W p l e R s m args below meth c H1 locs1 cells slots Q (F0 m (pc + 3) ls (.ref ra :: rest))) : W p l e R s m args below meth c H locs cells slots Q (F0 m pc ls st0) := by
  have hF := fr_F fr w.2.1 w.2.2 C.hA
  refine va_callr hr w.2.2 (fun q _ h => hF q h) hF (fun u ra' t H1 locs1 ht hvm hpost hB hz hk hS => ?_)
  obtain ⟨rfl, hP1, -, hD1⟩ := hB
  rw [ht] at hP1
  exact kk H1 locs1 (wd_frame fr w C.hA hk hP1 hD1 hS)
/-- a virtual call's run -/
theorem q_V {y : MethodName} {wy : List Cond} {rm : Room} {bytes : ByteArray} {maxL n index b : Nat} {retY : Option FieldType} {Cn : String} {As : List Value} {Qc : Array Value → State → Outcome → State → Prop} {fr1 : Nat → Prop} {ci q0 : Nat} {fs : List Value} {T : u_T} {N : Nat}
    (C : Cx p s m args meth c cc nL own Ts D tys A ret) (w : Wd D A s ws H locs) (fr : Fr ws wc wc ws) (F : Fc y wy rm bytes maxL retY n) (hG : GoodIn Ts (wsV own index Cn y wy)) (hC : y.cls = Cn)
    (hR : rm.frames + 1 ≤ R.frames ∧ 8 + (maxL + 11) + rm.locals ≤ R.locals) (hM : Met l y wy rm (va_Pc (.ref b :: As) (pW D tys H.size wc)) Qc 0 0 fr1)
    (he : wc[q0]? = some (b, .inr (ci, fs))) (hci : vwCl[ci]? = some (Cn, T, N)) (hn : As.length = n) {st : List Value} (hst : st = As.reverse ++ .ref b :: rest) {lv : List (Nat × Value)} (hl : lv_has ls nL lv) (hcat : (rest.map fun v => v.category).sum ≤ 8) (hdg : decode cc pc = .ok (.invokevirtual index, 3)) (hcs : cells ≤ R.cells ∧ slots ≤ R.slots) :
    va_Run p l e R s m args below meth c H locs cells slots 0 0 (F0 m pc ls st) rest (Qc (Value.ref b :: As).toArray) fr1 := by
  obtain ⟨⟨wy', hwy⟩, hrc, hrs, hd⟩ := F
  exact va_runV (As := As) (rest := rest) C.fix hM (cwV n C.ts hG hwy hrc hrs ⟨hC, hd⟩ hR) ⟨pre_blind, va_recv C.K (fr_P fr w.1) hci he, pre_here C w fr⟩ rfl hn hl.1 hst (lv_room hcat) hdg hcs
theorem q_S {y : MethodName} {wy : List Cond} {rm : Room} {bytes : ByteArray} {maxL n index : Nat} {retY : Option FieldType} {As : List Value} {Qc : Array Value → State → Outcome → State → Prop} {fr1 : Nat → Prop}
    (C : Cx p s m args meth c cc nL own Ts D tys A ret) (w : Wd D A s ws H locs) (fr : Fr ws wc wc ws) (F : Fc y wy rm bytes maxL retY n) (hG : GoodIn Ts (va_wsS own index y wy))
    (hR : rm.frames + 1 ≤ R.frames ∧ 8 + (maxL + 11) + rm.locals ≤ R.locals) (hM : Met l y wy rm (va_Pc As (pW D tys H.size wc)) Qc 0 0 fr1)
    (hn : As.length = n) {st : List Value} (hst : st = As.reverse ++ rest) {lv : List (Nat × Value)} (hl : lv_has ls nL lv) (hcat : (rest.map fun v => v.category).sum ≤ 8) (hdg : decode cc pc = .ok (.invokestatic index, 3)) (hcs : cells ≤ R.cells ∧ slots ≤ R.slots) :
    va_Run p l e R s m args below meth c H locs cells slots 0 0 (F0 m pc ls st) rest (Qc As.toArray) fr1 := by
  obtain ⟨⟨wy', hwy⟩, hrc, hrs, hd⟩ := F
  exact va_runS (As := As) (rest := rest) C.fix hM (va_cwS n C.ts hG hwy hrc hrs hd hR) ⟨pre_blind, pre_here C w fr⟩ rfl hn hl.1 hst (lv_room hcat) hdg hcs
theorem q_SN {y : MethodName} {wy : List Cond} {rm : Room} {bytes : ByteArray} {maxL n index : Nat} {retY : Option FieldType} {host : String} {As : List Value} {Qc : Array Value → State → Outcome → State → Prop} {fr1 : Nat → Prop}
    (C : Cx p s m args meth c cc nL own Ts D tys A ret) (w : Wd D A s ws H locs) (fr : Fr ws wc wc ws) (F : Fc y wy rm bytes maxL retY n) (hG : GoodIn Ts wy) (hnest : va_Nw (.methodLinkNest own index y host) s) (hini : Cond.initialized y.cls ∈ Ts) (hstat : Cond.static y ∈ Ts)
    (hR : rm.frames + 1 ≤ R.frames ∧ 8 + (maxL + 11) + rm.locals ≤ R.locals) (hM : Met l y wy rm (va_Pc As (pW D tys H.size wc)) Qc 0 0 fr1)
    (hn : As.length = n) {st : List Value} (hst : st = As.reverse ++ rest) {lv : List (Nat × Value)} (hl : lv_has ls nL lv) (hcat : (rest.map fun v => v.category).sum ≤ 8) (hdg : decode cc pc = .ok (.invokestatic index, 3)) (hcs : cells ≤ R.cells ∧ slots ≤ R.slots) :
    va_Run p l e R s m args below meth c H locs cells slots 0 0 (F0 m pc ls st) rest (Qc As.toArray) fr1 := by
  obtain ⟨⟨wy', hwy⟩, hrc, hrs, hd⟩ := F
  exact va_runSN (As := As) (rest := rest) C.fix hM ⟨va_cnB n C.ts hG hwy hrc hrs hnest (C.ts _ hini) hd hR, C.ts _ hstat, trivial⟩ ⟨pre_blind, pre_here C w fr⟩ rfl hn hl.1 hst (lv_room hcat) hdg hcs
/-! ends -/
theorem end_w (C : Cx p s m args meth c cc nL own Ts D tys A ret) (w : Wd D A s ws H locs) : ∀ t : State, t.heap = H → s.WarmedH t.vm → bW D tys A ws t ∧ va_F A s t := fun t ht hW =>
  ⟨⟨by rw [ht]; exact w.1, va_K.moved hW.alike C.K, w.2.1⟩, w.2.2.F ht⟩
theorem q_iret {ev v : Int} (C : Cx p s m args meth c cc nL own Ts D tys A (some .int)) (w : Wd D A s ws H locs) (hdg : decode cc pc = .ok (.ireturn, 1)) (hv : v = ev) (hw : ws = w1) :
    W p l e R s m args below meth c H locs 0 0 (MQ below (Qi D tys ev w1 A) args s 0 0 A) (F0 m pc ls [.int (jj v)]) := by
  subst hv; subst hw
  have hlocks := C.locks
  exact W.iret (v := jj v) C.1 C.2.1 C.hr (fun t ht hW => ⟨⟨jj v, (), rfl, rfl, (end_w C w t ht hW).1⟩, (end_w C w t ht hW).2⟩) w.2.2.2.2 hdg
theorem q_zret {P : Prop} [Decidable P] {v : Int} (C : Cx p s m args meth c cc nL own Ts D tys A (some .boolean)) (w : Wd D A s ws H locs) (hdg : decode cc pc = .ok (.ireturn, 1)) (hv : v = bI P) (hw : ws = w1) :
    W p l e R s m args below meth c H locs 0 0 (MQ below (Qi D tys (bI P) w1 A) args s 0 0 A) (F0 m pc ls [.int (jj v)]) := by
  subst hv; subst hw
  have hlocks := C.locks
  refine W.zret (v := jj (bI P)) C.1 C.2.1 C.hr ?_ (fun t ht hW => ⟨⟨jj (bI P), (), rfl, rfl, (end_w C w t ht hW).1⟩, (end_w C w t ht hW).2⟩) w.2.2.2.2 hdg
  by_cases h : P
  · rw [bI_t h]; rfl
  · rw [bI_f h]; rfl
theorem q_vret (C : Cx p s m args meth c cc nL own Ts D tys A none) (w : Wd D A s ws H locs) (hdg : decode cc pc = .ok (.return_, 1)) (hw : ws = w1) :
    W p l e R s m args below meth c H locs 0 0 (MQ below (Qv D tys w1 A) args s 0 0 A) (F0 m pc ls []) := by
  subst hw
  have hlocks := C.locks
  exact W.vret C.1 C.2.1 C.hr (fun t ht hW => ⟨⟨(), rfl, trivial, (end_w C w t ht hW).1⟩, (end_w C w t ht hW).2⟩) w.2.2.2.2 hdg
theorem q_aret {n : String} {ra a : Nat} (C : Cx p s m args meth c cc nL own Ts D tys A (some (.object n))) (w : Wd D A s ws H locs) (hdg : decode cc pc = .ok (.areturn, 1)) (ha : a = ra) (hw : ws = w1) :
    W p l e R s m args below meth c H locs 0 0 (MQ below (Qr D tys ra w1 A) args s 0 0 A) (F0 m pc ls [.ref a]) := by
  subst ha; subst hw
  have hlocks := C.locks
  exact W.aret (v := .ref a) C.1 C.2.1 C.hr (Or.inl ⟨_, rfl⟩) (Or.inr ⟨_, rfl⟩) (fun t ht hW => ⟨⟨(), a, rfl, trivial, rfl, (end_w C w t ht hW).1⟩, (end_w C w t ht hW).2⟩) w.2.2.2.2 hdg
/-! one row an instruction -/
theorem q_iadd {a b : Int} (C : Cx p s m args meth c cc nL own Ts D tys A ret) (hdg : decode cc pc = .ok (.iadd, 1)) (kk : W p l e R s m args below meth c H locs cells slots Q (F0 m (pc + 1) ls (.int (jj (a + b)) :: rest))) : W p l e R s m args below meth c H locs cells slots Q (F0 m pc ls (.int (jj b) :: .int (jj a) :: rest)) :=
  lv_iadd C.1 C.2.1 hdg (by rw [jj_add]; exact kk)
theorem q_isub {a b : Int} (C : Cx p s m args meth c cc nL own Ts D tys A ret) (hdg : decode cc pc = .ok (.isub, 1)) (kk : W p l e R s m args below meth c H locs cells slots Q (F0 m (pc + 1) ls (.int (jj (a - b)) :: rest))) : W p l e R s m args below meth c H locs cells slots Q (F0 m pc ls (.int (jj b) :: .int (jj a) :: rest)) :=
  lv_isub C.1 C.2.1 hdg (by rw [jj_sub]; exact kk)
theorem q_imul {a b : Int} (C : Cx p s m args meth c cc nL own Ts D tys A ret) (hdg : decode cc pc = .ok (.imul, 1)) (kk : W p l e R s m args below meth c H locs cells slots Q (F0 m (pc + 1) ls (.int (jj (a * b)) :: rest))) : W p l e R s m args below meth c H locs cells slots Q (F0 m pc ls (.int (jj b) :: .int (jj a) :: rest)) :=
  lv_imul C.1 C.2.1 hdg (by rw [jj_mul]; exact kk)
theorem q_ineg {a : Int} (C : Cx p s m args meth c cc nL own Ts D tys A ret) (hdg : decode cc pc = .ok (.ineg, 1)) (kk : W p l e R s m args below meth c H locs cells slots Q (F0 m (pc + 1) ls (.int (jj (-a)) :: rest))) : W p l e R s m args below meth c H locs cells slots Q (F0 m pc ls (.int (jj a) :: rest)) :=
  lv_ineg C.1 C.2.1 hdg (by rw [jj_neg]; exact kk)
theorem q_idiv {a b : Int} (C : Cx p s m args meth c cc nL own Ts D tys A ret) (hdg : decode cc pc = .ok (.idiv, 1)) (ha : 0 ≤ a ∧ a ≤ 2147483647) (hb : 0 < b ∧ b ≤ 2147483647) (kk : W p l e R s m args below meth c H locs cells slots Q (F0 m (pc + 1) ls (.int (jj (a / b)) :: rest))) : W p l e R s m args below meth c H locs cells slots Q (F0 m pc ls (.int (jj b) :: .int (jj a) :: rest)) :=
  lv_idiv C.1 C.2.1 hdg (fun h => by
    have h2 : jj b = jj 0 := h
    rw [jj_inj (by omega) (by omega) (by omega) (by omega)] at h2
    omega) (by rw [jj_div ha.1 ha.2 hb.1 hb.2]; exact kk)
theorem q_iconst {n : Int} (C : Cx p s m args meth c cc nL own Ts D tys A ret) (hdg : decode cc pc = .ok (.iconst n, 1)) (kk : W p l e R s m args below meth c H locs cells slots Q (F0 m (pc + 1) ls (.int (jj n) :: rest))) : W p l e R s m args below meth c H locs cells slots Q (F0 m pc ls rest) :=
  lv_iconst (v := jj n) C.1 C.2.1 hdg rfl kk
theorem q_bipush {n : Int} (C : Cx p s m args meth c cc nL own Ts D tys A ret) (hdg : decode cc pc = .ok (.bipush n, 2)) (hv : (Int8.ofInt n).toInt32 = jj n) (kk : W p l e R s m args below meth c H locs cells slots Q (F0 m (pc + 2) ls (.int (jj n) :: rest))) : W p l e R s m args below meth c H locs cells slots Q (F0 m pc ls rest) :=
  lv_bipush (v := jj n) C.1 C.2.1 hdg hv kk
theorem q_sipush {n : Int} (C : Cx p s m args meth c cc nL own Ts D tys A ret) (hdg : decode cc pc = .ok (.sipush n, 3)) (hv : (Int16.ofInt n).toInt32 = jj n) (kk : W p l e R s m args below meth c H locs cells slots Q (F0 m (pc + 3) ls (.int (jj n) :: rest))) : W p l e R s m args below meth c H locs cells slots Q (F0 m pc ls rest) :=
  lv_sipush (v := jj n) C.1 C.2.1 hdg hv kk
theorem q_iload_n {k : Fin 4} {i : Nat} {x : Int32} {lv : List (Nat × Value)} (C : Cx p s m args meth c cc nL own Ts D tys A ret) (hl : lv_has ls nL lv) (hdg : decode cc pc = .ok (.iload_n k, 1)) (hi : (k : Nat) = i) (j : Nat) (hj : lv[j]? = some (i, .int x)) (kk : W p l e R s m args below meth c H locs cells slots Q (F0 m (pc + 1) ls (.int x :: rest))) : W p l e R s m args below meth c H locs cells slots Q (F0 m pc ls rest) :=
  lv_iload_n C.1 C.2.1 hdg hi (lv_at hl j hj) kk
theorem q_iload {i : Nat} {x : Int32} {lv : List (Nat × Value)} (C : Cx p s m args meth c cc nL own Ts D tys A ret) (hl : lv_has ls nL lv) (hdg : decode cc pc = .ok (.iload i, 2)) (j : Nat) (hj : lv[j]? = some (i, .int x)) (kk : W p l e R s m args below meth c H locs cells slots Q (F0 m (pc + 2) ls (.int x :: rest))) : W p l e R s m args below meth c H locs cells slots Q (F0 m pc ls rest) :=
  lv_iload C.1 C.2.1 hdg (lv_at hl j hj) kk
theorem q_aload_n {k : Fin 4} {i : Nat} {x : Nat} {lv : List (Nat × Value)} (C : Cx p s m args meth c cc nL own Ts D tys A ret) (hl : lv_has ls nL lv) (hdg : decode cc pc = .ok (.aload_n k, 1)) (hi : (k : Nat) = i) (j : Nat) (hj : lv[j]? = some (i, .ref x)) (kk : W p l e R s m args below meth c H locs cells slots Q (F0 m (pc + 1) ls (.ref x :: rest))) : W p l e R s m args below meth c H locs cells slots Q (F0 m pc ls rest) :=
  lv_aload_n C.1 C.2.1 hdg hi (lv_at hl j hj) kk
theorem q_istore_n {k : Fin 4} {i : Nat} {x : Int32} {lv lv' : List (Nat × Value)} (C : Cx p s m args meth c cc nL own Ts D tys A ret) (hl : lv_has ls nL lv) (hdg : decode cc pc = .ok (.istore_n k, 1)) (hi : (k : Nat) = i) (hn : i < nL) (h' : (i, Value.int x) :: lv.filter (fun q => !(q.1 == i) && !(q.1 + 1 == i && q.2.category == 2)) = lv') (kk : ∀ ls' : Array Slot, lv_has ls' nL lv' → W p l e R s m args below meth c H locs cells slots Q (F0 m (pc + 1) ls' rest)) : W p l e R s m args below meth c H locs cells slots Q (F0 m pc ls (.int x :: rest)) :=
  lv_istore_n C.1 C.2.1 hdg hi hl hn h' kk
theorem q_istore {i : Nat} {x : Int32} {lv lv' : List (Nat × Value)} (C : Cx p s m args meth c cc nL own Ts D tys A ret) (hl : lv_has ls nL lv) (hdg : decode cc pc = .ok (.istore i, 2)) (hn : i < nL) (h' : (i, Value.int x) :: lv.filter (fun q => !(q.1 == i) && !(q.1 + 1 == i && q.2.category == 2)) = lv') (kk : ∀ ls' : Array Slot, lv_has ls' nL lv' → W p l e R s m args below meth c H locs cells slots Q (F0 m (pc + 2) ls' rest)) : W p l e R s m args below meth c H locs cells slots Q (F0 m pc ls (.int x :: rest)) :=
  lv_istore C.1 C.2.1 hdg hl hn h' kk
theorem q_iinc {i : Nat} {n x : Int} {lv lv' : List (Nat × Value)} (C : Cx p s m args meth c cc nL own Ts D tys A ret) (hl : lv_has ls nL lv) (hdg : decode cc pc = .ok (.iinc i n, 3)) (j : Nat) (hj : lv[j]? = some (i, .int (jj x))) (hn : i < nL) (h' : (i, Value.int (jj (x + n))) :: lv.filter (fun q => !(q.1 == i) && !(q.1 + 1 == i && q.2.category == 2)) = lv') (kk : ∀ ls' : Array Slot, lv_has ls' nL lv' → W p l e R s m args below meth c H locs cells slots Q (F0 m (pc + 3) ls' rest)) : W p l e R s m args below meth c H locs cells slots Q (F0 m pc ls rest) :=
  lv_iinc C.1 C.2.1 hdg hl hj (jj_add x n) hn h' kk
theorem q_goto {off : Int} {tgt : Nat} (C : Cx p s m args meth c cc nL own Ts D tys A ret) (hdg : decode cc pc = .ok (.goto off, 3)) (ht : (pc : Int) + off = (tgt : Int)) (kk : W p l e R s m args below meth c H locs cells slots Q (F0 m tgt ls rest)) : W p l e R s m args below meth c H locs cells slots Q (F0 m pc ls rest) :=
  lv_goto C.1 C.2.1 hdg ht kk
theorem q_dup {v : Value} (C : Cx p s m args meth c cc nL own Ts D tys A ret) (hdg : decode cc pc = .ok (.dup, 1)) (hv : v.category = 1) (kk : W p l e R s m args below meth c H locs cells slots Q (F0 m (pc + 1) ls (v :: v :: rest))) : W p l e R s m args below meth c H locs cells slots Q (F0 m pc ls (v :: rest)) :=
  lv_dup C.1 C.2.1 hdg hv kk
theorem q_dup2 {va vb : Value} (C : Cx p s m args meth c cc nL own Ts D tys A ret) (hdg : decode cc pc = .ok (.dup2, 1)) (hva : va.category = 1) (hvb : vb.category = 1) (kk : W p l e R s m args below meth c H locs cells slots Q (F0 m (pc + 1) ls (va :: vb :: va :: vb :: rest))) : W p l e R s m args below meth c H locs cells slots Q (F0 m pc ls (va :: vb :: rest)) :=
  lv_dup2_11 C.1 C.2.1 hdg hva hvb kk
/-! branches: 'Bd x': x is an int -/
def Bd (x : Int) : Prop := -2147483648 ≤ x ∧ x ≤ 2147483647
theorem q_icmp_ge {x y : Int} {off : Int} {tgt : Nat} (C : Cx p s m args meth c cc nL own Ts D tys A ret) (hdg : decode cc pc = .ok (.if_icmp .ge off, 3)) (ht : (pc : Int) + off = (tgt : Int)) (hx : Bd x) (hy : Bd y)
    (kt : y ≤ x → W p l e R s m args below meth c H locs cells slots Q (F0 m tgt ls rest)) (kf : x < y → W p l e R s m args below meth c H locs cells slots Q (F0 m (pc + 3) ls rest)) : W p l e R s m args below meth c H locs cells slots Q (F0 m pc ls (.int (jj y) :: .int (jj x) :: rest)) :=
  lv_icmp_ge C.1 C.2.1 hdg ht (fun h => kt ((jj_le hy.1 hy.2 hx.1 hx.2).mp h)) (fun h => kf (by have := mt (jj_le hy.1 hy.2 hx.1 hx.2).mpr h; omega))
theorem q_icmp_lt {x y : Int} {off : Int} {tgt : Nat} (C : Cx p s m args meth c cc nL own Ts D tys A ret) (hdg : decode cc pc = .ok (.if_icmp .lt off, 3)) (ht : (pc : Int) + off = (tgt : Int)) (hx : Bd x) (hy : Bd y)
    (kt : x < y → W p l e R s m args below meth c H locs cells slots Q (F0 m tgt ls rest)) (kf : y ≤ x → W p l e R s m args below meth c H locs cells slots Q (F0 m (pc + 3) ls rest)) : W p l e R s m args below meth c H locs cells slots Q (F0 m pc ls (.int (jj y) :: .int (jj x) :: rest)) :=
  lv_icmp_lt C.1 C.2.1 hdg ht (fun h => kt ((jj_lt hx.1 hx.2 hy.1 hy.2).mp h)) (fun h => kf (by have := mt (jj_lt hx.1 hx.2 hy.1 hy.2).mpr h; omega))
theorem q_icmp_le {x y : Int} {off : Int} {tgt : Nat} (C : Cx p s m args meth c cc nL own Ts D tys A ret) (hdg : decode cc pc = .ok (.if_icmp .le off, 3)) (ht : (pc : Int) + off = (tgt : Int)) (hx : Bd x) (hy : Bd y)
    (kt : x ≤ y → W p l e R s m args below meth c H locs cells slots Q (F0 m tgt ls rest)) (kf : y < x → W p l e R s m args below meth c H locs cells slots Q (F0 m (pc + 3) ls rest)) : W p l e R s m args below meth c H locs cells slots Q (F0 m pc ls (.int (jj y) :: .int (jj x) :: rest)) :=
  lv_icmp_le C.1 C.2.1 hdg ht (fun h => kt ((jj_le hx.1 hx.2 hy.1 hy.2).mp h)) (fun h => kf (by have := mt (jj_le hx.1 hx.2 hy.1 hy.2).mpr h; omega))
theorem q_icmp_gt {x y : Int} {off : Int} {tgt : Nat} (C : Cx p s m args meth c cc nL own Ts D tys A ret) (hdg : decode cc pc = .ok (.if_icmp .gt off, 3)) (ht : (pc : Int) + off = (tgt : Int)) (hx : Bd x) (hy : Bd y)
    (kt : y < x → W p l e R s m args below meth c H locs cells slots Q (F0 m tgt ls rest)) (kf : x ≤ y → W p l e R s m args below meth c H locs cells slots Q (F0 m (pc + 3) ls rest)) : W p l e R s m args below meth c H locs cells slots Q (F0 m pc ls (.int (jj y) :: .int (jj x) :: rest)) :=
  lv_icmp_gt C.1 C.2.1 hdg ht (fun h => kt ((jj_lt hy.1 hy.2 hx.1 hx.2).mp h)) (fun h => kf (by have := mt (jj_lt hy.1 hy.2 hx.1 hx.2).mpr h; omega))
theorem q_icmp_eq {x y : Int} {off : Int} {tgt : Nat} (C : Cx p s m args meth c cc nL own Ts D tys A ret) (hdg : decode cc pc = .ok (.if_icmp .eq off, 3)) (ht : (pc : Int) + off = (tgt : Int)) (hx : Bd x) (hy : Bd y)
    (kt : x = y → W p l e R s m args below meth c H locs cells slots Q (F0 m tgt ls rest)) (kf : x ≠ y → W p l e R s m args below meth c H locs cells slots Q (F0 m (pc + 3) ls rest)) : W p l e R s m args below meth c H locs cells slots Q (F0 m pc ls (.int (jj y) :: .int (jj x) :: rest)) :=
  lv_icmp_eq C.1 C.2.1 hdg ht (fun h => kt ((jj_inj hx.1 hx.2 hy.1 hy.2).mp h)) (fun h => kf (mt (jj_inj hx.1 hx.2 hy.1 hy.2).mpr h))
theorem q_icmp_ne {x y : Int} {off : Int} {tgt : Nat} (C : Cx p s m args meth c cc nL own Ts D tys A ret) (hdg : decode cc pc = .ok (.if_icmp .ne off, 3)) (ht : (pc : Int) + off = (tgt : Int)) (hx : Bd x) (hy : Bd y)
    (kt : x ≠ y → W p l e R s m args below meth c H locs cells slots Q (F0 m tgt ls rest)) (kf : x = y → W p l e R s m args below meth c H locs cells slots Q (F0 m (pc + 3) ls rest)) : W p l e R s m args below meth c H locs cells slots Q (F0 m pc ls (.int (jj y) :: .int (jj x) :: rest)) :=
  lv_icmp_ne C.1 C.2.1 hdg ht (fun h => kt (mt (jj_inj hx.1 hx.2 hy.1 hy.2).mpr h)) (fun h => kf ((jj_inj hx.1 hx.2 hy.1 hy.2).mp (by first | exact h | exact Classical.not_not.mp h)))
theorem jj_0 : (0 : Int32) = jj 0 := rfl
theorem q_if_eq {x : Int} {off : Int} {tgt : Nat} (C : Cx p s m args meth c cc nL own Ts D tys A ret) (hdg : decode cc pc = .ok (.ifCond .eq off, 3)) (ht : (pc : Int) + off = (tgt : Int)) (hx : Bd x)
    (kt : x = 0 → W p l e R s m args below meth c H locs cells slots Q (F0 m tgt ls rest)) (kf : x ≠ 0 → W p l e R s m args below meth c H locs cells slots Q (F0 m (pc + 3) ls rest)) : W p l e R s m args below meth c H locs cells slots Q (F0 m pc ls (.int (jj x) :: rest)) :=
  lv_if_eq C.1 C.2.1 hdg ht (fun h => kt ((jj_inj hx.1 hx.2 (by omega) (by omega)).mp h)) (fun h => kf (mt (jj_inj hx.1 hx.2 (by omega) (by omega)).mpr h))
theorem q_if_ne {x : Int} {off : Int} {tgt : Nat} (C : Cx p s m args meth c cc nL own Ts D tys A ret) (hdg : decode cc pc = .ok (.ifCond .ne off, 3)) (ht : (pc : Int) + off = (tgt : Int)) (hx : Bd x)
    (kt : x ≠ 0 → W p l e R s m args below meth c H locs cells slots Q (F0 m tgt ls rest)) (kf : x = 0 → W p l e R s m args below meth c H locs cells slots Q (F0 m (pc + 3) ls rest)) : W p l e R s m args below meth c H locs cells slots Q (F0 m pc ls (.int (jj x) :: rest)) :=
  lv_if_ne C.1 C.2.1 hdg ht (fun h => kt (mt (jj_inj hx.1 hx.2 (by omega) (by omega)).mpr h)) (fun h => kf ((jj_inj hx.1 hx.2 (by omega) (by omega)).mp h))
theorem q_ifz_eq {P : Prop} [Decidable P] {off : Int} {tgt : Nat} (C : Cx p s m args meth c cc nL own Ts D tys A ret) (hdg : decode cc pc = .ok (.ifCond .eq off, 3)) (ht : (pc : Int) + off = (tgt : Int))
    (kt : ¬ P → W p l e R s m args below meth c H locs cells slots Q (F0 m tgt ls rest)) (kf : P → W p l e R s m args below meth c H locs cells slots Q (F0 m (pc + 3) ls rest)) : W p l e R s m args below meth c H locs cells slots Q (F0 m pc ls (.int (jj (bI P)) :: rest)) :=
  lv_if_eq C.1 C.2.1 hdg ht (fun h => kt (bI_0.mp h)) (fun h => kf (Classical.not_not.mp (mt bI_0.mpr h)))
theorem q_ifz_ne {P : Prop} [Decidable P] {off : Int} {tgt : Nat} (C : Cx p s m args meth c cc nL own Ts D tys A ret) (hdg : decode cc pc = .ok (.ifCond .ne off, 3)) (ht : (pc : Int) + off = (tgt : Int))
    (kt : P → W p l e R s m args below meth c H locs cells slots Q (F0 m tgt ls rest)) (kf : ¬ P → W p l e R s m args below meth c H locs cells slots Q (F0 m (pc + 3) ls rest)) : W p l e R s m args below meth c H locs cells slots Q (F0 m pc ls (.int (jj (bI P)) :: rest)) :=
  lv_if_ne C.1 C.2.1 hdg ht (fun h => kt (Classical.not_not.mp (mt bI_0.mpr h))) (fun h => kf (bI_0.mp h))
theorem q_if_lt {x : Int} {off : Int} {tgt : Nat} (C : Cx p s m args meth c cc nL own Ts D tys A ret) (hdg : decode cc pc = .ok (.ifCond .lt off, 3)) (ht : (pc : Int) + off = (tgt : Int)) (hx : Bd x)
    (kt : x < 0 → W p l e R s m args below meth c H locs cells slots Q (F0 m tgt ls rest)) (kf : 0 ≤ x → W p l e R s m args below meth c H locs cells slots Q (F0 m (pc + 3) ls rest)) : W p l e R s m args below meth c H locs cells slots Q (F0 m pc ls (.int (jj x) :: rest)) :=
  lv_if_lt C.1 C.2.1 hdg ht (fun h => kt ((jj_lt hx.1 hx.2 (by omega) (by omega)).mp h)) (fun h => kf (by have := mt (jj_lt (b := 0) hx.1 hx.2 (by omega) (by omega)).mpr h; omega))
theorem q_if_ge {x : Int} {off : Int} {tgt : Nat} (C : Cx p s m args meth c cc nL own Ts D tys A ret) (hdg : decode cc pc = .ok (.ifCond .ge off, 3)) (ht : (pc : Int) + off = (tgt : Int)) (hx : Bd x)
    (kt : 0 ≤ x → W p l e R s m args below meth c H locs cells slots Q (F0 m tgt ls rest)) (kf : x < 0 → W p l e R s m args below meth c H locs cells slots Q (F0 m (pc + 3) ls rest)) : W p l e R s m args below meth c H locs cells slots Q (F0 m pc ls (.int (jj x) :: rest)) :=
  lv_if_ge C.1 C.2.1 hdg ht (fun h => kt ((jj_le (a := 0) (by omega) (by omega) hx.1 hx.2).mp h)) (fun h => kf (by have := mt (jj_le (a := 0) (by omega) (by omega) hx.1 hx.2).mpr h; omega))
theorem q_if_gt {x : Int} {off : Int} {tgt : Nat} (C : Cx p s m args meth c cc nL own Ts D tys A ret) (hdg : decode cc pc = .ok (.ifCond .gt off, 3)) (ht : (pc : Int) + off = (tgt : Int)) (hx : Bd x)
    (kt : 0 < x → W p l e R s m args below meth c H locs cells slots Q (F0 m tgt ls rest)) (kf : x ≤ 0 → W p l e R s m args below meth c H locs cells slots Q (F0 m (pc + 3) ls rest)) : W p l e R s m args below meth c H locs cells slots Q (F0 m pc ls (.int (jj x) :: rest)) :=
  lv_if_gt C.1 C.2.1 hdg ht (fun h => kt ((jj_lt (a := 0) (by omega) (by omega) hx.1 hx.2).mp h)) (fun h => kf (by have := mt (jj_lt (a := 0) (by omega) (by omega) hx.1 hx.2).mpr h; omega))
theorem q_if_le {x : Int} {off : Int} {tgt : Nat} (C : Cx p s m args meth c cc nL own Ts D tys A ret) (hdg : decode cc pc = .ok (.ifCond .le off, 3)) (ht : (pc : Int) + off = (tgt : Int)) (hx : Bd x)
    (kt : x ≤ 0 → W p l e R s m args below meth c H locs cells slots Q (F0 m tgt ls rest)) (kf : 0 < x → W p l e R s m args below meth c H locs cells slots Q (F0 m (pc + 3) ls rest)) : W p l e R s m args below meth c H locs cells slots Q (F0 m pc ls (.int (jj x) :: rest)) :=
  lv_if_le C.1 C.2.1 hdg ht (fun h => kt ((jj_le (b := 0) hx.1 hx.2 (by omega) (by omega)).mp h)) (fun h => kf (by have := mt (jj_le (b := 0) hx.1 hx.2 (by omega) (by omega)).mpr h; omega))
/-! fields and arrays -/
theorem q_get {Cn : String} {T : u_T} {N ci index a : Nat} {fs : List Value} {v : Value} (C : Cx p s m args meth c cc nL own Ts D tys A ret) (hP : va_P D vwCl ws H) (hin : ∀ w ∈ u_ws Cn T N, w ∈ Ts) (q0 : Nat) (he : ws[q0]? = some (a, .inr (ci, fs))) (hc : vwCl[ci]? = some (Cn, T, N)) (k : Nat) (hk : k < N) (hlink : Cond.fieldLink own index (T k).1 (T k).2.1 (T k).2.2.1 ∈ Ts) (hv : fs[k]? = some v) (hdg : decode cc pc = .ok (.getfield index, 3))
    (kk : W p l e R s m args below meth c H locs cells slots Q (F0 m (pc + 3) ls (v :: rest))) : W p l e R s m args below meth c H locs cells slots Q (F0 m pc ls (.ref a :: rest)) :=
  va_get C.1 C.2.1 C.ts hin C.ho C.K hP q0 he hc k hk (C.ts _ hlink) (fun _ h => h) hv hdg kk
theorem q_put {Cn : String} {T : u_T} {N ci index a : Nat} {fs : List Value} {v : Value} {ty : FieldType} (C : Cx p s m args meth c cc nL own Ts D tys A ret) (w : Wd D A s ws H locs) (hin : ∀ w ∈ u_ws Cn T N, w ∈ Ts) (ty0 : Nat → FieldType) (hty : ∀ k, k < N → parseFieldDescriptor (T k).2.2.1 = some (ty0 k)) (hnm : ∀ a, a < N → ∀ b, b < N → a ≠ b → (T a).2.1 ≠ (T b).2.1)
    (q0 : Nat) (he : ws[q0]? = some (a, .inr (ci, fs))) (hc : vwCl[ci]? = some (Cn, T, N)) (k : Nat) (hk : k < N) (hlink : Cond.fieldLink own index (T k).1 (T k).2.1 (T k).2.2.1 ∈ Ts) (hfin : (T k).2.2.2 = false) (hd : parseFieldDescriptor (T k).2.2.1 = some ty) (hn : narrow ty v = v) (hfit : fits ty v = true) (hl : k < fs.length) (hdg : decode cc pc = .ok (.putfield index, 3))
    (hw : ws.set q0 (a, .inr (ci, fs.set k v)) = ws')
    (kk : ∀ (H1 : Heap) (locs1 : List Loc), Wd D A s ws' H1 locs1 → W p l e R s m args below meth c H1 locs1 cells slots Q (F0 m (pc + 3) ls rest)) : W p l e R s m args below meth c H locs cells slots Q (F0 m pc ls (v :: .ref a :: rest)) :=
  va_put C.1 C.2.1 C.ts hin ty0 hty hnm C.ho C.K w.1 w.2.1 w.2.2 q0 he hc k hk (C.ts _ hlink) (fun _ h => h) hfin hd hn hfit hl hdg (fun H1 locs1 hP hD hS => by subst hw; exact kk H1 locs1 ⟨hP, hD, hS⟩)
theorem q_iald {a n : Nat} {cA : ClassId} {f : Int → Int} {i : Int} (C : Cx p s m args meth c cc nL own Ts D tys A ret) (hP : va_P D vwCl ws H) (q0 t0 : Nat) (ha : ws[q0]? = some (a, .inl (cA, n, .inl (ac f)))) (ht : tys[t0]? = some (cA, .int)) (hi : 0 ≤ i ∧ i < n ∧ i ≤ 2147483647) (hdg : decode cc pc = .ok (.iaload, 1))
    (kk : W p l e R s m args below meth c H locs cells slots Q (F0 m (pc + 1) ls (.int (jj (f i)) :: rest))) : W p l e R s m args below meth c H locs cells slots Q (F0 m pc ls (.int (jj i) :: .ref a :: rest)) :=
  va_iald C.1 C.2.1 C.K hP q0 t0 ha ht (jj_in hi.1 hi.2.1 hi.2.2) hdg (by rw [ac_ld f hi.1 hi.2.2]; exact kk)
theorem q_cald {a n : Nat} {cA : ClassId} {f : Int → Int} {i : Int} (C : Cx p s m args meth c cc nL own Ts D tys A ret) (hP : va_P D vwCl ws H) (q0 t0 : Nat) (ha : ws[q0]? = some (a, .inl (cA, n, .inl (ac f)))) (ht : tys[t0]? = some (cA, .char)) (hi : 0 ≤ i ∧ i < n ∧ i ≤ 2147483647) (hdg : decode cc pc = .ok (.caload, 1))
    (kk : W p l e R s m args below meth c H locs cells slots Q (F0 m (pc + 1) ls (.int (jj (f i)) :: rest))) : W p l e R s m args below meth c H locs cells slots Q (F0 m pc ls (.int (jj i) :: .ref a :: rest)) :=
  va_cald C.1 C.2.1 C.K hP q0 t0 ha ht (jj_in hi.1 hi.2.1 hi.2.2) hdg (by rw [ac_ld f hi.1 hi.2.2]; exact kk)
theorem q_iast {a n : Nat} {cA : ClassId} {f : Int → Int} {i x : Int} (C : Cx p s m args meth c cc nL own Ts D tys A ret) (w : Wd D A s ws H locs) (q0 t0 : Nat) (ha : ws[q0]? = some (a, .inl (cA, n, .inl (ac f)))) (ht : tys[t0]? = some (cA, .int)) (hi : 0 ≤ i ∧ i < n ∧ i ≤ 2147483647) (hdg : decode cc pc = .ok (.iastore, 1))
    (hw : ws.set q0 (a, .inl (cA, n, .inl (ac (up f i x)))) = ws')
    (kk : ∀ (H1 : Heap) (locs1 : List Loc), Wd D A s ws' H1 locs1 → W p l e R s m args below meth c H1 locs1 cells slots Q (F0 m (pc + 1) ls rest)) : W p l e R s m args below meth c H locs cells slots Q (F0 m pc ls (.int (jj x) :: .int (jj i) :: .ref a :: rest)) :=
  va_iast C.1 C.2.1 C.K w.1 w.2.1 w.2.2 q0 t0 ha ht (jj_in hi.1 hi.2.1 hi.2.2) hdg (fun H1 locs1 hP hD hS => by rw [ac_st f x hi.1 hi.2.2] at hP hD; subst hw; exact kk H1 locs1 ⟨hP, hD, hS⟩)
theorem q_mmax {x y : Int} {index : Nat} {lv : List (Nat × Value)} (C : Cx p s m args meth c cc nL own Ts D tys A ret) (hl : lv_has ls nL lv) (hlink : Cond.methodLink own index Lib.Math.max.name ∈ Ts) (hstat : Cond.static Lib.Math.max.name ∈ Ts) (hini : Cond.initialized "java/lang/Math" ∈ Ts) (hcode : Cond.code Lib.Math.max.name Lib.Math.max.code 2 (some .int) ∈ Ts) (hx : Bd x) (hy : Bd y)
    (hframes : 1 ≤ R.frames) (hlocals : (rest.map fun v => v.category).sum + 13 ≤ R.locals) (hc : cells ≤ R.cells) (hs : slots ≤ R.slots) (hdg : decode cc pc = .ok (.invokestatic index, 3))
    (kk : W p l e R s m args below meth c H locs cells slots Q (F0 m (pc + 3) ls (.int (jj (max x y)) :: rest))) : W p l e R s m args below meth c H locs cells slots Q (F0 m pc ls (.int (jj y) :: .int (jj x) :: rest)) := by
  refine va_mmax C.1 C.2.1 (C.2.2.1.trans hl.1.symm) C.ho (C.ts _ hlink) (C.ts _ hstat) (C.ts _ hini) (C.ts _ hcode) hframes hlocals hc hs hdg ?_
  have e : (if jj x < jj y then jj y else jj x) = jj (max x y) := by
    have := jj_lt hx.1 hx.2 hy.1 hy.2
    by_cases h : x < y
    · rw [if_pos (this.mpr h), show max x y = y by omega]
    · rw [if_neg (mt this.mp h), show max x y = x by omega]
  rw [e]; exact kk
theorem q_mmin {x y : Int} {index : Nat} {lv : List (Nat × Value)} (C : Cx p s m args meth c cc nL own Ts D tys A ret) (hl : lv_has ls nL lv) (hlink : Cond.methodLink own index Lib.Math.min.name ∈ Ts) (hstat : Cond.static Lib.Math.min.name ∈ Ts) (hini : Cond.initialized "java/lang/Math" ∈ Ts) (hcode : Cond.code Lib.Math.min.name Lib.Math.min.code 2 (some .int) ∈ Ts) (hx : Bd x) (hy : Bd y)
    (hframes : 1 ≤ R.frames) (hlocals : (rest.map fun v => v.category).sum + 13 ≤ R.locals) (hc : cells ≤ R.cells) (hs : slots ≤ R.slots) (hdg : decode cc pc = .ok (.invokestatic index, 3))
    (kk : W p l e R s m args below meth c H locs cells slots Q (F0 m (pc + 3) ls (.int (jj (min x y)) :: rest))) : W p l e R s m args below meth c H locs cells slots Q (F0 m pc ls (.int (jj y) :: .int (jj x) :: rest)) := by
  refine va_mmin C.1 C.2.1 (C.2.2.1.trans hl.1.symm) C.ho (C.ts _ hlink) (C.ts _ hstat) (C.ts _ hini) (C.ts _ hcode) hframes hlocals hc hs hdg ?_
  have e : (if jj y < jj x then jj y else jj x) = jj (min x y) := by
    have := jj_lt hy.1 hy.2 hx.1 hx.2
    by_cases h : y < x
    · rw [if_pos (this.mpr h), show min x y = y by omega]
    · rw [if_neg (mt this.mp h), show min x y = x by omega]
  rw [e]; exact kk
end QQ
