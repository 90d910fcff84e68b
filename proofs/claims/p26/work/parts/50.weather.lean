/-! The weather's object: its text, and the rows of things that were read. -/
def tFs (ad : Nat → Nat) (q : Int → Int) : List Value := [.ref (ad 0), .int (jj (q 1)), .ref (ad 2), .ref (ad 3), .ref (ad 4), .int (jj (q 5)), .int (jj (q 6))]
def tW (cI cC : ClassId) (h : Nat) (ad : Nat → Nat) (τ kd am sd q : Int → Int) : va_W := [(h, .inr (2, tFs ad q)), (ad 0, .inl (cC, 60, .inl (ac τ))), (ad 2, .inl (cC, 30, .inl (ac kd))), (ad 3, .inl (cI, 30, .inl (ac am))), (ad 4, .inl (cI, 30, .inl (ac sd)))]
theorem tP1 (cI cC : ClassId) (h : Nat) (ad : Nat → Nat) (τ kd am sd q : Int → Int) (v : Int) : (tW cI cC h ad τ kd am sd q).set 0 (h, .inr (2, (tFs ad q).set 1 (.int (jj v)))) = tW cI cC h ad τ kd am sd (up q 1 v) := by simp [tW, tFs, up]
theorem tP5 (cI cC : ClassId) (h : Nat) (ad : Nat → Nat) (τ kd am sd q : Int → Int) (v : Int) : (tW cI cC h ad τ kd am sd q).set 0 (h, .inr (2, (tFs ad q).set 5 (.int (jj v)))) = tW cI cC h ad τ kd am sd (up q 5 v) := by simp [tW, tFs, up]
theorem tP6 (cI cC : ClassId) (h : Nat) (ad : Nat → Nat) (τ kd am sd q : Int → Int) (v : Int) : (tW cI cC h ad τ kd am sd q).set 0 (h, .inr (2, (tFs ad q).set 6 (.int (jj v)))) = tW cI cC h ad τ kd am sd (up q 6 v) := by simp [tW, tFs, up]
theorem nar_c {v : Int} (h0 : 0 ≤ v) (h1 : v < 65536) : vp_nar .char (jj v) = jj v := by
  have e : jj v = ((jj v).toUInt32 % 65536).toInt32 := by rw [jj_char]; congr 1; omega
  rw [e, pk_vc]
section QT
variable {p : Program} {l : Launch} {e : Env} {R : Room} {s : State} {m : MethodId} {args : Array Value} {below : List Frame} {meth : Method} {c : Code} {H : Heap} {locs : List Loc} {cells slots : Nat} {Q : State → Prop}
variable {cc : ByteArray} {nL : Nat} {own : String} {Ts : List Cond} {D : va_G} {tys : List (ClassId × FieldType)} {A : Nat → Prop} {ret : Option FieldType} {pc : Nat} {ls : Array Slot} {rest : List Value} {ws ws' b : va_W}
variable {cI cC cS : ClassId} {h : Nat} {ad : Nat → Nat} {τ kd am sd q : Int → Int}
theorem q_getT {index : Nat} {v : Value} (C : Cx p s m args meth c cc nL own Ts D tys A ret) (hP : va_P D vwCl (tW cI cC h ad τ kd am sd q) H) (hin : ∀ w ∈ wsX20, w ∈ Ts) (k : Nat) (hk : k < 7) (hlink : Cond.fieldLink own index (TX2 k).1 (TX2 k).2.1 (TX2 k).2.2.1 ∈ Ts) (hv : (tFs ad q)[k]? = some v) (hdg : decode cc pc = .ok (.getfield index, 3))
    (kk : W p l e R s m args below meth c H locs cells slots Q (F0 m (pc + 3) ls (v :: rest))) : W p l e R s m args below meth c H locs cells slots Q (F0 m pc ls (.ref h :: rest)) :=
  q_get (Cn := RX2) (T := TX2) (N := 7) (ci := 2) C hP hin 0 rfl rfl k hk hlink hv hdg kk
theorem q_putT {index : Nat} {v : Int} (C : Cx p s m args meth c cc nL own Ts D tys A ret) (w : Wd D A s (tW cI cC h ad τ kd am sd q) H locs) (hin : ∀ w ∈ wsX20, w ∈ Ts) (k : Nat) (hk : k < 7) (hlink : Cond.fieldLink own index (TX2 k).1 (TX2 k).2.1 (TX2 k).2.2.1 ∈ Ts) (hfin : (TX2 k).2.2.2 = false) (hd : parseFieldDescriptor (TX2 k).2.2.1 = some .int) (hdg : decode cc pc = .ok (.putfield index, 3))
    (hw : (tW cI cC h ad τ kd am sd q).set 0 (h, .inr (2, (tFs ad q).set k (.int (jj v)))) = ws')
    (kk : ∀ (H1 : Heap) (locs1 : List Loc), Wd D A s ws' H1 locs1 → W p l e R s m args below meth c H1 locs1 cells slots Q (F0 m (pc + 3) ls rest)) : W p l e R s m args below meth c H locs cells slots Q (F0 m pc ls (.int (jj v) :: .ref h :: rest)) :=
  q_put (Cn := RX2) (T := TX2) (N := 7) (ci := 2) (fs := tFs ad q) C w hin tyX2 tyX2_ok nmX2 0 rfl rfl k hk hlink hfin hd rfl rfl (by show k < 7; exact hk) hdg hw kk
theorem q_cast {a n : Nat} {cA : ClassId} {f : Int → Int} {i x : Int} (C : Cx p s m args meth c cc nL own Ts D tys A ret) (w : Wd D A s ws H locs) (q0 t0 : Nat) (ha : ws[q0]? = some (a, .inl (cA, n, .inl (ac f)))) (ht : tys[t0]? = some (cA, .char)) (hi : 0 ≤ i ∧ i < n ∧ i ≤ 2147483647) (hx : 0 ≤ x ∧ x < 65536) (hdg : decode cc pc = .ok (.castore, 1))
    (hw : ws.set q0 (a, .inl (cA, n, .inl (ac (up f i x)))) = ws')
    (kk : ∀ (H1 : Heap) (locs1 : List Loc), Wd D A s ws' H1 locs1 → W p l e R s m args below meth c H1 locs1 cells slots Q (F0 m (pc + 1) ls rest)) : W p l e R s m args below meth c H locs cells slots Q (F0 m pc ls (.int (jj x) :: .int (jj i) :: .ref a :: rest)) :=
  va_cast C.1 C.2.1 C.K w.1 w.2.1 w.2.2 q0 t0 ha ht (jj_in hi.1 hi.2.1 hi.2.2) hdg (fun H1 locs1 hP hD hS => by rw [nar_c hx.1 hx.2, ac_st f x hi.1 hi.2.2] at hP hD; subst hw; exact kk H1 locs1 ⟨hP, hD, hS⟩)
end QT
def chA (τ : Int → Int) (le P : Int) : Int := if P < le then τ P else -1
def dgA (τ : Int → Int) (le P : Int) : Int := if 48 ≤ chA τ le P ∧ chA τ le P ≤ 57 then chA τ le P - 48 else -1
def rsA (τ : Int → Int) (le P : Int) : Int := if chA τ le P = 60 then 1 else if chA τ le P = 62 then 2 else 0
theorem chA_ltr (τ : Int → Int) (le P : Int) : (chA τ le P = ltr τ le P ∧ P < le) ∨ (chA τ le P = -1 ∧ ltr τ le P = 0 ∧ le ≤ P) := by
  unfold chA ltr
  by_cases c : P < le
  · rw [if_pos c, if_pos c]; exact Or.inl ⟨rfl, c⟩
  · rw [if_neg c, if_neg c]; exact Or.inr ⟨rfl, rfl, by omega⟩
theorem chA_b {τ : Int → Int} {le P : Int} (hP : 0 ≤ P) (h : ∀ x : Int, 0 ≤ x → x < le → 0 ≤ τ x ∧ τ x ≤ 65535) : -1 ≤ chA τ le P ∧ chA τ le P ≤ 65535 := by
  unfold chA; split
  · have := h P hP (by omega); omega
  · omega
theorem chA_in {τ : Int → Int} {le P : Int} (h : P < le) : chA τ le P = τ P := if_pos h
theorem up_at {q : Int → Int} {k v : Int} (h : q k = v) : up q k v = q := by rw [← h]; exact up_same q k
/-- the rows of the first n things -/
def pkd (τ : Int → Int) (le : Int) (F : (Int → Int) → Int → Int → Int) (kd : Int → Int) (n : Int) : Int → Int := fun k => if 0 ≤ k ∧ k < n then F τ le (itp τ le k).1 else kd k
theorem pkd_0 (τ : Int → Int) (le : Int) (F : (Int → Int) → Int → Int → Int) (kd : Int → Int) : pkd τ le F kd 0 = kd := by funext k; unfold pkd; rw [if_neg (by omega)]
theorem pkd_s {τ : Int → Int} {le n P : Int} (F : (Int → Int) → Int → Int → Int) (kd : Int → Int) (hn : 0 ≤ n) (he : (P, n) = itp τ le n) : up (pkd τ le F kd n) n (F τ le P) = pkd τ le F kd (n + 1) := by
  have e1 : P = (itp τ le n).1 := by rw [← he]
  funext k; unfold up pkd
  by_cases e : k = n
  · rw [if_pos e, if_pos (by omega), e, ← e1]
  · rw [if_neg e]
    by_cases c : 0 ≤ k ∧ k < n
    · rw [if_pos c, if_pos (by omega)]
    · rw [if_neg c, if_neg (by omega)]
theorem pkd_at {τ : Int → Int} {le n k : Int} (F : (Int → Int) → Int → Int → Int) (kd : Int → Int) (h0 : 0 ≤ k) (h1 : k < n) : pkd τ le F kd n k = F τ le (itp τ le k).1 := if_pos ⟨h0, h1⟩
theorem up65 (q : Int → Int) (a b : Int) : up (up q 5 b) 6 a = up (up q 6 a) 5 b := by
  funext k; simp only [up]; (repeat' split) <;> first | rfl | omega
theorem up6565 (q : Int → Int) (a b x y : Int) : up (up (up (up q 6 a) 5 b) 6 x) 5 y = up (up q 6 x) 5 y := by
  funext k; simp only [up]; (repeat' split) <;> first | rfl | omega
theorem up656 (q : Int → Int) (a b x : Int) : up (up (up q 6 a) 5 b) 6 x = up (up q 6 x) 5 b := by
  funext k; simp only [up]; (repeat' split) <;> first | rfl | omega
