/-! Making objects. -/
def st0 : Int → Int := fun k => if k = 10 then 3 else if k = 11 then 2 else if k = 12 then 5 else 0
theorem st0_r {k : Int} (hk : 0 ≤ k) : ac (rr st0 k) = ac (fun _ => 0) := by
  funext j; unfold ac rr st0
  rw [if_neg (by omega), if_neg (by omega), if_neg (by omega)]
theorem st0_s : ac (sg st0) = ac (up (up (up (fun _ => 0) 0 3) 1 2) 2 5) := by
  funext j; unfold ac
  congr 1
  unfold sg
  by_cases c : 0 ≤ (j : Int) ∧ (j : Int) < 3
  · rw [if_pos c]
    have h3 : (j : Int) = 0 ∨ (j : Int) = 1 ∨ (j : Int) = 2 := by omega
    rcases h3 with h | h | h <;> rw [h] <;> rfl
  · rw [if_neg c, up_n _ _ (by omega), up_n _ _ (by omega), up_n _ _ (by omega)]
theorem st0_I : Iv st0 := Iv_iff.mpr ⟨by unfold st0; simp, fun x x0 x1 => absurd x1 (by unfold st0; simp; omega), by unfold Cv st0; simp⟩
/-- what the maker's addresses are -/
def adx (a0 a1 a2 a3 a4 a5 a6 : Nat) : Nat → Nat := fun k => match k with | 0 => a0 | 1 => a1 | 2 => a2 | 3 => a3 | 4 => a4 | 5 => a5 | _ => a6
theorem at_refs {D : va_G} {cl : List vw_C} {a n : Nat} {cA : ClassId} {f g : Nat → Option Nat} {H : Heap} (hfg : ∀ k : Nat, k < n → f k = g k) (h : va_at D cl (a, .inl (cA, n, .inr (.inr (.inr (.inr f))))) H) : va_at D cl (a, .inl (cA, n, .inr (.inr (.inr (.inr g))))) H := by
  have e : vp_cell cA (n, .inr (.inr (.inr (.inr f)))) = vp_cell cA (n, .inr (.inr (.inr (.inr g)))) := by
    show arrV cA n (fun j => va_rf (f j)) = arrV cA n (fun j => va_rf (g j))
    unfold arrV
    congr 1
    apply Array.ext
    · simp
    · intro i h1 h2
      have hi : i < n := by simpa using h1
      simp only [Array.getElem_ofFn]
      rw [hfg i hi]
  show H[a]? = some (vp_cell cA (n, .inr (.inr (.inr (.inr g)))))
  rw [← e]; exact h
theorem fr_tl {x wc w1 : va_W} : Fr (x ++ wc) wc w1 (x ++ w1) := ⟨x, List.perm_append_comm, List.perm_append_comm⟩
section QM
variable {p : Program} {l : Launch} {e : Env} {R : Room} {s : State} {m : MethodId} {args : Array Value} {below : List Frame} {meth : Method} {c : Code} {H : Heap} {locs : List Loc} {cells slots : Nat} {Q : State → Prop}
variable {cc : ByteArray} {nL : Nat} {own : String} {Ts : List Cond} {D : va_G} {tys : List (ClassId × FieldType)} {A : Nat → Prop} {ret : Option FieldType} {pc : Nat} {ls : Array Slot} {rest : List Value} {ws wc ws' b : va_W} {cI cC cS : ClassId}
theorem q_objInit {a idx : Nat} {lv : List (Nat × Value)} (C : Cx p s m args meth c cc nL own Ts D tys A ret) (hl : lv_has ls nL lv) (hlink : Cond.methodLink own idx objectInit ∈ Ts) (hinst : Cond.instanceMethod objectInit ∈ Ts) (hcode : Cond.code objectInit ⟨#[0xb1]⟩ 1 none ∈ Ts) (hframes : 1 ≤ R.frames) (hlocals : (rest.map fun v => v.category).sum + 20 ≤ R.locals) (hcat : (rest.map fun v => v.category).sum ≤ 8) (hdg : decode cc pc = .ok (.invokespecial idx, 3))
    (kk : W p l e R s m args below meth c H locs cells slots Q (F0 m (pc + 3) ls rest)) : W p l e R s m args below meth c H locs cells slots Q (F0 m pc ls (.ref a :: rest)) := by
  have hr := lv_room (m := m) (pc := pc) (rest := rest) (ls := ls) hcat
  exact W.objInit (g := F0 m pc ls (.ref a :: rest)) C.1 C.2.1 C.ho (C.ts _ hlink) (C.ts _ hinst) (C.ts _ hcode) rfl (hl.1.trans C.2.2.1.symm) rfl hdg hframes (by
    have h0 : 2 * (F0 m pc ls (.ref a :: rest)).monitorRoom = 0 := rfl
    omega) kk
theorem q_newi {n : Int} {N : Nat} (C : Cx p s m args meth c cc nL own Ts D (tz cI cC cS) A ret) (w : Wd D A s ws H locs) (harr : Cond.arrayClass .int ∈ Ts) (hn : n = (N : Int)) (hN : N ≤ 1000) (hcells : cells + 1 ≤ R.cells) (hslots : slots + N ≤ R.slots) (hdg : decode cc pc = .ok (.newarray .int, 2))
    (kk : ∀ (q : Nat) (H1 : Heap), Wd D A s (ws ++ [(q, .inl (cI, N, .inl (ac (fun _ => 0))))]) H1 locs → W p l e R s m args below meth c H1 locs (cells + 1) (slots + N) Q (F0 m (pc + 2) ls (.ref q :: rest))) : W p l e R s m args below meth c H locs cells slots Q (F0 m pc ls (.int (jj n) :: rest)) := by
  have hc := jj_cl (i := n) (by omega) (by omega)
  refine va_newa (atype := .int) (ty := .int) (N' := N) (a0 := (N, .inl (ac (fun _ => 0)))) C.1 C.2.1 (C.ts _ harr) rfl C.K w.1 w.2.1 w.2.2 C.hA (fun _ => rfl) (fun hh => ?_) (by omega) ?_ hcells hslots hdg (fun q cA H1 hK1 hP hD hS => ?_)
  · have := (jj_lt (a := n) (b := 0) (by omega) (by omega) (by omega) (by omega)).mp hh
    omega
  · show N * 4 ≤ 536870912
    omega
  · have e1 : s.vm.findClass ("[" ++ FieldType.int.toString) = some cI := (hK1.2 0 (cI, .int) rfl).2
    have e2 : s.vm.findClass ("[" ++ FieldType.int.toString) = some cA := (hK1.2 3 (cA, .int) rfl).2
    have e3 : cI = cA := Option.some.inj (e1.symm.trans e2)
    subst e3
    exact kk q H1 ⟨hP, hD, hS⟩
theorem q_newc {n : Int} {N : Nat} (C : Cx p s m args meth c cc nL own Ts D (tz cI cC cS) A ret) (w : Wd D A s ws H locs) (harr : Cond.arrayClass .char ∈ Ts) (hn : n = (N : Int)) (hN : N ≤ 1000) (hcells : cells + 1 ≤ R.cells) (hslots : slots + N ≤ R.slots) (hdg : decode cc pc = .ok (.newarray .char, 2))
    (kk : ∀ (q : Nat) (H1 : Heap), Wd D A s (ws ++ [(q, .inl (cC, N, .inl (ac (fun _ => 0))))]) H1 locs → W p l e R s m args below meth c H1 locs (cells + 1) (slots + N) Q (F0 m (pc + 2) ls (.ref q :: rest))) : W p l e R s m args below meth c H locs cells slots Q (F0 m pc ls (.int (jj n) :: rest)) := by
  have hc := jj_cl (i := n) (by omega) (by omega)
  refine va_newa (atype := .char) (ty := .char) (N' := N) (a0 := (N, .inl (ac (fun _ => 0)))) C.1 C.2.1 (C.ts _ harr) rfl C.K w.1 w.2.1 w.2.2 C.hA (fun _ => rfl) (fun hh => ?_) (by omega) ?_ hcells hslots hdg (fun q cA H1 hK1 hP hD hS => ?_)
  · have := (jj_lt (a := n) (b := 0) (by omega) (by omega) (by omega) (by omega)).mp hh
    omega
  · show N * 2 ≤ 536870912
    omega
  · have e1 : s.vm.findClass ("[" ++ FieldType.char.toString) = some cC := (hK1.2 1 (cC, .char) rfl).2
    have e2 : s.vm.findClass ("[" ++ FieldType.char.toString) = some cA := (hK1.2 3 (cA, .char) rfl).2
    have e3 : cC = cA := Option.some.inj (e1.symm.trans e2)
    subst e3
    exact kk q H1 ⟨hP, hD, hS⟩
theorem q_newo {Cn : String} {T : u_T} {N ci index : Nat} {fs : List Value} (C : Cx p s m args meth c cc nL own Ts D tys A ret) (w : Wd D A s ws H locs) (hin : ∀ w ∈ u_ws Cn T N, w ∈ Ts) (ty : Nat → FieldType) (hty : ∀ k, k < N → parseFieldDescriptor (T k).2.2.1 = some (ty k)) (hcl : Cond.classLink own index Cn ∈ Ts) (hinst : Cond.instantiable Cn N ∈ Ts) (hini : Cond.initialized Cn ∈ Ts) (hc : vwCl[ci]? = some (Cn, T, N)) (hfs : ∀ j, j < N → defaultValue (ty j) = vp_V fs j) (hcells : cells + 1 ≤ R.cells) (hslots : slots + N ≤ R.slots) (hdg : decode cc pc = .ok (.new index, 3))
    (kk : ∀ (q : Nat) (H1 : Heap), Wd D A s (ws ++ [(q, .inr (ci, fs))]) H1 locs → W p l e R s m args below meth c H1 locs (cells + 1) (slots + N) Q (F0 m (pc + 3) ls (.ref q :: rest))) : W p l e R s m args below meth c H locs cells slots Q (F0 m pc ls rest) :=
  va_new C.1 C.2.1 C.ts hin ty hty C.ho (C.ts _ hcl) (C.ts _ hinst) (C.ts _ hini) C.K w.1 w.2.1 w.2.2 C.hA hc hfs hcells hslots hdg (fun q H1 hP hD hS => kk q H1 ⟨hP, hD, hS⟩)
/-- a final field in its class's maker -/
theorem q_putF {Cn : String} {T : u_T} {N ci index : Nat} {a : Nat} {fs : List Value} {v : Value} {ty : FieldType} (C : Cx p s m args meth c cc nL own Ts D tys A ret) (hin2 : meth.name = "<init>") (w : Wd D A s ws H locs) (hin : ∀ w ∈ u_ws Cn T N, w ∈ Ts) (ty0 : Nat → FieldType) (hty : ∀ k, k < N → parseFieldDescriptor (T k).2.2.1 = some (ty0 k)) (hnm : ∀ a, a < N → ∀ b, b < N → a ≠ b → (T a).2.1 ≠ (T b).2.1)
    (q0 : Nat) (he : ws[q0]? = some (a, .inr (ci, fs))) (hc : vwCl[ci]? = some (Cn, T, N)) (k : Nat) (hk : k < N) (hlink : Cond.fieldLink own index (T k).1 (T k).2.1 (T k).2.2.1 ∈ Ts) (hfin : (T k).2.2.2 = true) (hdecl : (T k).1 = own) (hd : parseFieldDescriptor (T k).2.2.1 = some ty) (hn : narrow ty v = v) (hfit : fits ty v = true) (hl : k < fs.length) (hdg : decode cc pc = .ok (.putfield index, 3))
    (hw : ws.set q0 (a, .inr (ci, fs.set k v)) = ws')
    (kk : ∀ (H1 : Heap) (locs1 : List Loc), Wd D A s ws' H1 locs1 → W p l e R s m args below meth c H1 locs1 cells slots Q (F0 m (pc + 3) ls rest)) : W p l e R s m args below meth c H locs cells slots Q (F0 m pc ls (v :: .ref a :: rest)) :=
  va_putF C.1 C.2.1 C.ts hin ty0 hty hnm C.ho C.K w.1 w.2.1 w.2.2 q0 he hc k hk (C.ts _ hlink) (fun _ h => h) hfin hin2 hdecl hd hn hfit hl hdg (fun H1 locs1 hP hD hS => by subst hw; exact kk H1 locs1 ⟨hP, hD, hS⟩)
/-- a maker's end: the world is one of those of wn -/
theorem q_vretU {U : Type} {wn : U → va_W} {mc ms : Nat} (u : U) (C : Cx p s m args meth c cc nL own Ts D tys A none) (w : Wd D A s (wn u) H locs) (hm : cells = mc) (hs : slots = ms) (hdg : decode cc pc = .ok (.return_, 1)) :
    W p l e R s m args below meth c H locs cells slots (MQ below (va_Qv (fun _ : U => True) (fun u t => bW D tys A (wn u) t) A) args s mc ms A) (F0 m pc ls []) := by
  subst hm; subst hs
  have hlocks := C.locks
  exact W.vret C.1 C.2.1 C.hr (fun t ht hW => ⟨⟨u, rfl, trivial, (end_w C w t ht hW).1⟩, (end_w C w t ht hW).2⟩) w.2.2.2.2 hdg
/-- a maker's contract -/
def Kn {U : Type} (l : Launch) (y : MethodName) (wy : List Cond) (rm : Room) (D : va_G) (tys : List (ClassId × FieldType)) (av : List Value) (w0 : va_W) (wn : U → va_W) (mc ms : Nat) : Prop :=
  ∀ sz : Nat, Met l y wy rm (va_Pc av (pW D tys sz w0)) (va_Qv (fun _ : U => True) (fun u t => bW D tys (va_A w0 sz) (wn u) t) (va_A w0 sz)) mc ms (va_A w0 sz)
theorem q_runU {U : Type} {wn ws2 : U → va_W} {mc ms : Nat} {st0_ : List Value} {a : Array Value} (C : Cx p s m args meth c cc nL own Ts D tys A ret) (w : Wd D A s ws H locs) (fr : ∀ u, Fr ws wc (wn u) (ws2 u))
    (frx : ∃ w1 w2, Fr ws wc w1 w2)
    (hr : va_Run p l e R s m args below meth c H locs cells slots mc ms (F0 m pc ls st0_) rest (va_Qv (fun _ : U => True) (fun u t => bW D tys (va_A wc H.size) (wn u) t) (va_A wc H.size) a) (va_A wc H.size))
    (kk : ∀ (u : U) (H1 : Heap) (locs1 : List Loc), Wd D A s (ws2 u) H1 locs1 → W p l e R s m args below meth c H1 locs1 (cells + mc) (slots + ms) Q (F0 m (pc + 3) ls rest)) : W p l e R s m args below meth c H locs cells slots Q (F0 m pc ls st0_) := by
  obtain ⟨w1, w2, frx⟩ := frx
  have hF := fr_F frx w.2.1 w.2.2 C.hA
  refine va_callv hr w.2.2 (fun q _ h => hF q h) hF (fun u t H1 locs1 ht hvm hpost hB hz hk hS => ?_)
  obtain ⟨hP1, -, hD1⟩ := hB
  rw [ht] at hP1
  exact kk u H1 locs1 (wd_frame (fr u) w C.hA hk hP1 hD1 hS)
def Fn (y : MethodName) (ws : List Cond) (rm : Room) (bytes : ByteArray) (nL : Nat) (mc ms : Nat) : Prop :=
  (∃ ws', ws = Cond.code y bytes nL none :: ws') ∧ rm.cells = mc ∧ rm.slots = ms ∧ y.cls ≠ "java/lang/invoke/MethodHandle" ∧ y.cls ≠ "java/lang/invoke/VarHandle" ∧ (parseMethodDescriptor y.desc).map (fun d => d.parameters.length) = some 0 ∧ y.name = "<init>"
/-- a maker's run: in reach, or a nest mate's -/
theorem q_I {y : MethodName} {wy : List Cond} {rm : Room} {bytes : ByteArray} {maxL index b mc ms : Nat} {Qc : Array Value → State → Outcome → State → Prop} {fr1 : Nat → Prop}
    (C : Cx p s m args meth c cc nL own Ts D tys A ret) (w : Wd D A s ws H locs) (fr : Fr ws wc wc ws) (F : Fn y wy rm bytes maxL mc ms) (hG : GoodIn Ts wy) (hini : Cond.initialized y.cls ∈ Ts) (hlink : Cond.methodLink own index y ∈ Ts) (hinst : Cond.instanceMethod y ∈ Ts)
    (hR : rm.frames + 1 ≤ R.frames ∧ 8 + (maxL + 11) + rm.locals ≤ R.locals) (hM : Met l y wy rm (va_Pc [.ref b] (pW D tys H.size wc)) Qc mc ms fr1)
    {st : List Value} (hst : st = .ref b :: rest) {lv : List (Nat × Value)} (hl : lv_has ls nL lv) (hcat : (rest.map fun v => v.category).sum ≤ 8) (hdg : decode cc pc = .ok (.invokespecial index, 3)) (hcs : cells + mc ≤ R.cells ∧ slots + ms ≤ R.slots) :
    va_Run p l e R s m args below meth c H locs cells slots mc ms (F0 m pc ls st) rest (Qc [Value.ref b].toArray) fr1 := by
  obtain ⟨⟨wy', hwy⟩, hrc, hrs, hd1, hd2, hd3, hn⟩ := F
  exact va_runI (As := []) (rest := rest) C.fix hM (cwI 0 C.ts hG hwy hrc hrs (C.ts _ hini) (C.ts _ hlink) (C.ts _ hinst) hn ⟨hd1, hd2, hd3⟩ hR) ⟨pre_blind, pre_here C w fr⟩ rfl rfl hl.1 hst (lv_room hcat) hdg hcs
theorem q_IN {y : MethodName} {wy : List Cond} {rm : Room} {bytes : ByteArray} {maxL index b mc ms : Nat} {host : String} {Qc : Array Value → State → Outcome → State → Prop} {fr1 : Nat → Prop}
    (C : Cx p s m args meth c cc nL own Ts D tys A ret) (w : Wd D A s ws H locs) (fr : Fr ws wc wc ws) (F : Fn y wy rm bytes maxL mc ms) (hG : GoodIn Ts wy) (hini : Cond.initialized y.cls ∈ Ts) (hnest : va_Nw (.methodLinkNest own index y host) s) (hinst : Cond.instanceMethod y ∈ Ts)
    (hR : rm.frames + 1 ≤ R.frames ∧ 8 + (maxL + 11) + rm.locals ≤ R.locals) (hM : Met l y wy rm (va_Pc [.ref b] (pW D tys H.size wc)) Qc mc ms fr1)
    {st : List Value} (hst : st = .ref b :: rest) {lv : List (Nat × Value)} (hl : lv_has ls nL lv) (hcat : (rest.map fun v => v.category).sum ≤ 8) (hdg : decode cc pc = .ok (.invokespecial index, 3)) (hcs : cells + mc ≤ R.cells ∧ slots + ms ≤ R.slots) :
    va_Run p l e R s m args below meth c H locs cells slots mc ms (F0 m pc ls st) rest (Qc [Value.ref b].toArray) fr1 := by
  obtain ⟨⟨wy', hwy⟩, hrc, hrs, hd1, hd2, hd3, hn⟩ := F
  exact va_runIN (As := []) (rest := rest) C.fix hM ⟨va_cnB 0 C.ts hG hwy hrc hrs hnest (C.ts _ hini) ⟨hd1, hd2, hd3⟩ hR, hn, C.ts _ hinst⟩ ⟨pre_blind, pre_here C w fr⟩ rfl rfl hl.1 hst (lv_room hcat) hdg hcs
end QM
