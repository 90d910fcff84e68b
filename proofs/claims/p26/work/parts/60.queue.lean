/-! The history's and the queue's own objects. -/
def upN (η : Nat → Int → Int) (d : Nat) (v : Int → Int) : Nat → Int → Int := fun i => if i = d then v else η i
def h5 (cI : ClassId) (hs : Nat → Nat) (ha : Nat → Nat → Nat) (η : Nat → Int → Int) : va_W := cSt cI (hs 0) (ha 0) (η 0) ++ (cSt cI (hs 1) (ha 1) (η 1) ++ (cSt cI (hs 2) (ha 2) (η 2) ++ (cSt cI (hs 3) (ha 3) (η 3) ++ cSt cI (hs 4) (ha 4) (η 4))))
/-- the history: its object, its row (which may stand apart from the states' order), its states -/
def hV (cI cS : ClassId) (h har : Nat) (rw_ : Nat → Nat) (hs : Nat → Nat) (ha : Nat → Nat → Nat) (η : Nat → Int → Int) (dp : Int) : va_W := (h, .inr (0, [.ref har, .int (jj dp)])) :: (har, .inl (cS, 5, .inr (.inr (.inr (.inr (fun i => some (rw_ i))))))) :: h5 cI hs ha η
def hW (cI cS : ClassId) (h har : Nat) (hs : Nat → Nat) (ha : Nat → Nat → Nat) (η : Nat → Int → Int) (dp : Int) : va_W := hV cI cS h har hs hs ha η dp
def rotN {α : Type} (f : Nat → α) : Nat → α := fun i => if i < 4 then f (i + 1) else if i = 4 then f 0 else f i
theorem pm {f : Nat → va_W} {is js : List Nat} (h : is.Perm js) : (is.flatMap f).Perm (js.flatMap f) := h.flatMap_right f
def uFs (hn hsn hh hw : Nat) (u : Int → Int) : List Value := [.ref hn, .ref hsn, .ref hh, .ref hw, .int (jj (u 4)), .int (jj (u 5)), .int (jj (u 6))]
def uW (cI cC cS : ClassId) (h hn : Nat) (adn : Nat → Nat) (hsn : Nat) (ads : Nat → Nat) (hh har hw : Nat) (adw : Nat → Nat) (σ ς : Int → Int) (hs : Nat → Nat) (ha : Nat → Nat → Nat) (η : Nat → Int → Int) (dp : Int) (τ kd am sd q u : Int → Int) : va_W :=
  (h, .inr (3, uFs hn hsn hh hw u)) :: (cSt cI hn adn σ ++ (cSt cI hsn ads ς ++ (hW cI cS hh har hs ha η dp ++ tW cI cC hw adw τ kd am sd q)))
theorem fr_of {ws wc w1 ws' v : va_W} (h1 : ws.Perm (wc ++ v)) (h2 : (w1 ++ v).Perm ws') : Fr ws wc w1 ws' := ⟨v, h1, h2⟩
/-- five blocks in another order -/
theorem b5 (a b x d e : va_W) {is : List Nat} (h : [0, 1, 2, 3, 4].Perm is) : (a ++ (b ++ (x ++ (d ++ e)))).Perm (is.flatMap (fun i => match i with | 0 => a | 1 => b | 2 => x | 3 => d | _ => e)) := by
  have := pm (f := fun i => match i with | 0 => a | 1 => b | 2 => x | 3 => d | _ => e) h
  have e1 : [0, 1, 2, 3, 4].flatMap (fun i => match i with | 0 => a | 1 => b | 2 => x | 3 => d | _ => e) = a ++ (b ++ (x ++ (d ++ e))) := by simp [List.flatMap_cons]
  rwa [e1] at this
section FR
variable {cI cC cS : ClassId} {h hn : Nat} {adn : Nat → Nat} {hsn : Nat} {ads : Nat → Nat} {hh har hw : Nat} {adw : Nat → Nat} {σ ς : Int → Int} {hs : Nat → Nat} {ha : Nat → Nat → Nat} {η : Nat → Int → Int} {dp : Int} {τ kd am sd q u : Int → Int}
theorem fu_n {σ' : Int → Int} : Fr (uW cI cC cS h hn adn hsn ads hh har hw adw σ ς hs ha η dp τ kd am sd q u) (cSt cI hn adn σ) (cSt cI hn adn σ') (uW cI cC cS h hn adn hsn ads hh har hw adw σ' ς hs ha η dp τ kd am sd q u) :=
  fr_mid (u := [(h, .inr (3, uFs hn hsn hh hw u))]) (wc := cSt cI hn adn σ) (w1 := cSt cI hn adn σ') (v := cSt cI hsn ads ς ++ (hW cI cS hh har hs ha η dp ++ tW cI cC hw adw τ kd am sd q))
theorem fu_t {τ' kd' am' sd' q' : Int → Int} : Fr (uW cI cC cS h hn adn hsn ads hh har hw adw σ ς hs ha η dp τ kd am sd q u) (tW cI cC hw adw τ kd am sd q) (tW cI cC hw adw τ' kd' am' sd' q') (uW cI cC cS h hn adn hsn ads hh har hw adw σ ς hs ha η dp τ' kd' am' sd' q' u) := by
  have h1 := b5 [(h, .inr (3, uFs hn hsn hh hw u))] (cSt cI hn adn σ) (cSt cI hsn ads ς) (hW cI cS hh har hs ha η dp) (tW cI cC hw adw τ kd am sd q) (is := [4, 0, 1, 2, 3]) (by decide)
  have h2 := b5 [(h, .inr (3, uFs hn hsn hh hw u))] (cSt cI hn adn σ) (cSt cI hsn ads ς) (hW cI cS hh har hs ha η dp) (tW cI cC hw adw τ' kd' am' sd' q') (is := [4, 0, 1, 2, 3]) (by decide)
  exact fr_of h1 h2.symm
theorem fu_h {hs' : Nat → Nat} {ha' : Nat → Nat → Nat} {η' : Nat → Int → Int} {dp' : Int} : Fr (uW cI cC cS h hn adn hsn ads hh har hw adw σ ς hs ha η dp τ kd am sd q u) (hW cI cS hh har hs ha η dp) (hW cI cS hh har hs' ha' η' dp') (uW cI cC cS h hn adn hsn ads hh har hw adw σ ς hs' ha' η' dp' τ kd am sd q u) := by
  have h1 := b5 [(h, .inr (3, uFs hn hsn hh hw u))] (cSt cI hn adn σ) (cSt cI hsn ads ς) (hW cI cS hh har hs ha η dp) (tW cI cC hw adw τ kd am sd q) (is := [3, 0, 1, 2, 4]) (by decide)
  have h2 := b5 [(h, .inr (3, uFs hn hsn hh hw u))] (cSt cI hn adn σ) (cSt cI hsn ads ς) (hW cI cS hh har hs' ha' η' dp') (tW cI cC hw adw τ kd am sd q) (is := [3, 0, 1, 2, 4]) (by decide)
  exact fr_of h1 h2.symm
/-- the history and the state that is drafted -/
theorem fu_d {η' : Nat → Int → Int} : Fr (uW cI cC cS h hn adn hsn ads hh har hw adw σ ς hs ha η dp τ kd am sd q u) (hW cI cS hh har hs ha η dp ++ cSt cI hn adn σ) (hW cI cS hh har hs ha η' dp ++ cSt cI hn adn σ) (uW cI cC cS h hn adn hsn ads hh har hw adw σ ς hs ha η' dp τ kd am sd q u) := by
  have h1 := b5 [(h, .inr (3, uFs hn hsn hh hw u))] (cSt cI hn adn σ) (cSt cI hsn ads ς) (hW cI cS hh har hs ha η dp) (tW cI cC hw adw τ kd am sd q) (is := [3, 1, 0, 2, 4]) (by decide)
  have h2 := b5 [(h, .inr (3, uFs hn hsn hh hw u))] (cSt cI hn adn σ) (cSt cI hsn ads ς) (hW cI cS hh har hs ha η' dp) (tW cI cC hw adw τ kd am sd q) (is := [3, 1, 0, 2, 4]) (by decide)
  refine fr_of (v := [0, 2, 4].flatMap (fun i => match i with | 0 => [(h, .inr (3, uFs hn hsn hh hw u))] | 1 => cSt cI hn adn σ | 2 => cSt cI hsn ads ς | 3 => hW cI cS hh har hs ha η dp | _ => tW cI cC hw adw τ kd am sd q)) ?_ ?_
  · rw [List.append_assoc]; exact h1
  · rw [List.append_assoc]; exact h2.symm
/-- the snapshot out of the state -/
theorem fu_k {ς' : Int → Int} : Fr (uW cI cC cS h hn adn hsn ads hh har hw adw σ ς hs ha η dp τ kd am sd q u) (cSt cI hsn ads ς ++ cSt cI hn adn σ) (cSt cI hsn ads ς' ++ cSt cI hn adn σ) (uW cI cC cS h hn adn hsn ads hh har hw adw σ ς' hs ha η dp τ kd am sd q u) := by
  have h1 := b5 [(h, .inr (3, uFs hn hsn hh hw u))] (cSt cI hn adn σ) (cSt cI hsn ads ς) (hW cI cS hh har hs ha η dp) (tW cI cC hw adw τ kd am sd q) (is := [2, 1, 0, 3, 4]) (by decide)
  have h2 := b5 [(h, .inr (3, uFs hn hsn hh hw u))] (cSt cI hn adn σ) (cSt cI hsn ads ς') (hW cI cS hh har hs ha η dp) (tW cI cC hw adw τ kd am sd q) (is := [2, 1, 0, 3, 4]) (by decide)
  refine fr_of (v := [0, 3, 4].flatMap (fun i => match i with | 0 => [(h, .inr (3, uFs hn hsn hh hw u))] | 1 => cSt cI hn adn σ | 2 => cSt cI hsn ads ς | 3 => hW cI cS hh har hs ha η dp | _ => tW cI cC hw adw τ kd am sd q)) ?_ ?_
  · rw [List.append_assoc]; exact h1
  · rw [List.append_assoc]; exact h2.symm
/-- the state out of the snapshot -/
theorem fu_r {σ' : Int → Int} : Fr (uW cI cC cS h hn adn hsn ads hh har hw adw σ ς hs ha η dp τ kd am sd q u) (cSt cI hn adn σ ++ cSt cI hsn ads ς) (cSt cI hn adn σ' ++ cSt cI hsn ads ς) (uW cI cC cS h hn adn hsn ads hh har hw adw σ' ς hs ha η dp τ kd am sd q u) := by
  have h1 := b5 [(h, .inr (3, uFs hn hsn hh hw u))] (cSt cI hn adn σ) (cSt cI hsn ads ς) (hW cI cS hh har hs ha η dp) (tW cI cC hw adw τ kd am sd q) (is := [1, 2, 0, 3, 4]) (by decide)
  have h2 := b5 [(h, .inr (3, uFs hn hsn hh hw u))] (cSt cI hn adn σ') (cSt cI hsn ads ς) (hW cI cS hh har hs ha η dp) (tW cI cC hw adw τ kd am sd q) (is := [1, 2, 0, 3, 4]) (by decide)
  refine fr_of (v := [0, 3, 4].flatMap (fun i => match i with | 0 => [(h, .inr (3, uFs hn hsn hh hw u))] | 1 => cSt cI hn adn σ | 2 => cSt cI hsn ads ς | 3 => hW cI cS hh har hs ha η dp | _ => tW cI cC hw adw τ kd am sd q)) ?_ ?_
  · rw [List.append_assoc]; exact h1
  · rw [List.append_assoc]; exact h2.symm
/-- five states and the one that stands at d -/
theorem h5_at (d : Nat) (hd : d ≤ 4) : ∃ a b : va_W, (∀ v : Int → Int, h5 cI hs ha (upN η d v) = a ++ (cSt cI (hs d) (ha d) v ++ b)) ∧ h5 cI hs ha η = a ++ (cSt cI (hs d) (ha d) (η d) ++ b) := by
  match d, hd with
  | 0, _ => exact ⟨[], cSt cI (hs 1) (ha 1) (η 1) ++ (cSt cI (hs 2) (ha 2) (η 2) ++ (cSt cI (hs 3) (ha 3) (η 3) ++ cSt cI (hs 4) (ha 4) (η 4))), fun v => rfl, rfl⟩
  | 1, _ => exact ⟨cSt cI (hs 0) (ha 0) (η 0), cSt cI (hs 2) (ha 2) (η 2) ++ (cSt cI (hs 3) (ha 3) (η 3) ++ cSt cI (hs 4) (ha 4) (η 4)), fun v => rfl, rfl⟩
  | 2, _ => exact ⟨cSt cI (hs 0) (ha 0) (η 0) ++ cSt cI (hs 1) (ha 1) (η 1), cSt cI (hs 3) (ha 3) (η 3) ++ cSt cI (hs 4) (ha 4) (η 4), fun v => rfl, rfl⟩
  | 3, _ => exact ⟨cSt cI (hs 0) (ha 0) (η 0) ++ (cSt cI (hs 1) (ha 1) (η 1) ++ cSt cI (hs 2) (ha 2) (η 2)), cSt cI (hs 4) (ha 4) (η 4), fun v => rfl, rfl⟩
  | 4, _ => exact ⟨cSt cI (hs 0) (ha 0) (η 0) ++ (cSt cI (hs 1) (ha 1) (η 1) ++ (cSt cI (hs 2) (ha 2) (η 2) ++ cSt cI (hs 3) (ha 3) (η 3))), [], fun v => rfl, rfl⟩
/-- the drafted state out of another one -/
theorem fh_c {b : va_W} {v : Int → Int} {d : Nat} (hd : d ≤ 4) : Fr (hW cI cS h har hs ha η dp ++ b) (cSt cI (hs d) (ha d) (η d) ++ b) (cSt cI (hs d) (ha d) v ++ b) (hW cI cS h har hs ha (upN η d v) dp ++ b) := by
  obtain ⟨x, y, e1, e2⟩ := h5_at (cI := cI) (hs := hs) (ha := ha) (η := η) d hd
  have g1 := b5 [(h, .inr (0, [.ref har, .int (jj dp)])), (har, .inl (cS, 5, .inr (.inr (.inr (.inr (fun i => some (hs i)))))))] x (cSt cI (hs d) (ha d) (η d)) y b (is := [2, 4, 0, 1, 3]) (by decide)
  have g2 := b5 [(h, .inr (0, [.ref har, .int (jj dp)])), (har, .inl (cS, 5, .inr (.inr (.inr (.inr (fun i => some (hs i)))))))] x (cSt cI (hs d) (ha d) v) y b (is := [2, 4, 0, 1, 3]) (by decide)
  unfold hW hV
  rw [e1 v, e2]
  refine fr_of (v := [0, 1, 3].flatMap (fun i => match i with | 0 => [(h, .inr (0, [.ref har, .int (jj dp)])), (har, .inl (cS, 5, .inr (.inr (.inr (.inr (fun i => some (hs i)))))))] | 1 => x | 2 => cSt cI (hs d) (ha d) (η d) | 3 => y | _ => b)) ?_ ?_
  · rw [List.append_assoc]
    refine List.Perm.trans ?_ g1
    simp only [List.append_assoc, List.cons_append, List.nil_append]
    exact List.Perm.refl _
  · rw [List.append_assoc]
    refine List.Perm.trans g2.symm ?_
    simp only [List.append_assoc, List.cons_append, List.nil_append]
    exact List.Perm.refl _
/-- the state out of the one that the history holds at d -/
theorem fu_u {σ' : Int → Int} {d : Nat} (hd : d ≤ 4) : Fr (uW cI cC cS h hn adn hsn ads hh har hw adw σ ς hs ha η dp τ kd am sd q u) (cSt cI hn adn σ ++ cSt cI (hs d) (ha d) (η d)) (cSt cI hn adn σ' ++ cSt cI (hs d) (ha d) (η d)) (uW cI cC cS h hn adn hsn ads hh har hw adw σ' ς hs ha η dp τ kd am sd q u) := by
  obtain ⟨x, y, -, e2⟩ := h5_at (cI := cI) (hs := hs) (ha := ha) (η := η) d hd
  have g1 := b5 [(h, .inr (3, uFs hn hsn hh hw u))] (cSt cI hn adn σ) (cSt cI hsn ads ς ++ ((hh, .inr (0, [.ref har, .int (jj dp)])) :: (har, .inl (cS, 5, .inr (.inr (.inr (.inr (fun i => some (hs i))))))) :: x)) (cSt cI (hs d) (ha d) (η d)) (y ++ tW cI cC hw adw τ kd am sd q) (is := [1, 3, 0, 2, 4]) (by decide)
  have g2 := b5 [(h, .inr (3, uFs hn hsn hh hw u))] (cSt cI hn adn σ') (cSt cI hsn ads ς ++ ((hh, .inr (0, [.ref har, .int (jj dp)])) :: (har, .inl (cS, 5, .inr (.inr (.inr (.inr (fun i => some (hs i))))))) :: x)) (cSt cI (hs d) (ha d) (η d)) (y ++ tW cI cC hw adw τ kd am sd q) (is := [1, 3, 0, 2, 4]) (by decide)
  unfold uW hW hV
  rw [e2]
  refine fr_of (v := [0, 2, 4].flatMap (fun i => match i with | 0 => [(h, .inr (3, uFs hn hsn hh hw u))] | 1 => cSt cI hn adn σ | 2 => cSt cI hsn ads ς ++ ((hh, .inr (0, [.ref har, .int (jj dp)])) :: (har, .inl (cS, 5, .inr (.inr (.inr (.inr (fun i => some (hs i))))))) :: x) | 3 => cSt cI (hs d) (ha d) (η d) | _ => y ++ tW cI cC hw adw τ kd am sd q)) ?_ ?_
  · rw [List.append_assoc]
    refine List.Perm.trans ?_ g1
    simp only [List.append_assoc, List.cons_append, List.nil_append]
    exact List.Perm.refl _
  · rw [List.append_assoc]
    refine List.Perm.trans g2.symm ?_
    simp only [List.append_assoc, List.cons_append, List.nil_append]
    exact List.Perm.refl _
theorem vU_n {D : va_G} {H : Heap} (w : va_P D vwCl (uW cI cC cS h hn adn hsn ads hh har hw adw σ ς hs ha η dp τ kd am sd q u) H) : va_P D vwCl (cSt cI hn adn σ) H := fr_P (fu_n (σ' := σ)) w
theorem vU_t {D : va_G} {H : Heap} (w : va_P D vwCl (uW cI cC cS h hn adn hsn ads hh har hw adw σ ς hs ha η dp τ kd am sd q u) H) : va_P D vwCl (tW cI cC hw adw τ kd am sd q) H := fr_P (fu_t (τ' := τ) (kd' := kd) (am' := am) (sd' := sd) (q' := q)) w
theorem vU_h {D : va_G} {H : Heap} (w : va_P D vwCl (uW cI cC cS h hn adn hsn ads hh har hw adw σ ς hs ha η dp τ kd am sd q u) H) : va_P D vwCl (hW cI cS hh har hs ha η dp) H := fr_P (fu_h (hs' := hs) (ha' := ha) (η' := η) (dp' := dp)) w
theorem uP (k : Nat) (v : Int) (hk : k = 4 ∨ k = 5 ∨ k = 6) : (uW cI cC cS h hn adn hsn ads hh har hw adw σ ς hs ha η dp τ kd am sd q u).set 0 (h, .inr (3, (uFs hn hsn hh hw u).set k (.int (jj v)))) = uW cI cC cS h hn adn hsn ads hh har hw adw σ ς hs ha η dp τ kd am sd q (up u (k : Int) v) := by
  rcases hk with rfl | rfl | rfl <;> simp [uW, uFs, up]
/-- the rows go round -/
theorem h5_rot : (h5 cI hs ha η).Perm (h5 cI (rotN hs) (rotN ha) (rotN η)) := by
  have := b5 (cSt cI (hs 0) (ha 0) (η 0)) (cSt cI (hs 1) (ha 1) (η 1)) (cSt cI (hs 2) (ha 2) (η 2)) (cSt cI (hs 3) (ha 3) (η 3)) (cSt cI (hs 4) (ha 4) (η 4)) (is := [1, 2, 3, 4, 0]) (by decide)
  refine List.Perm.trans this ?_
  simp only [List.flatMap_cons, List.flatMap_nil, List.append_nil]
  exact List.Perm.refl _
theorem hV_rot : (hV cI cS h har (rotN hs) hs ha η dp).Perm (hW cI cS h har (rotN hs) (rotN ha) (rotN η) dp) := (h5_rot.cons _).cons _
end FR
section QU
variable {p : Program} {l : Launch} {e : Env} {R : Room} {s : State} {m : MethodId} {args : Array Value} {below : List Frame} {meth : Method} {c : Code} {H : Heap} {locs : List Loc} {cells slots : Nat} {Q : State → Prop}
variable {cc : ByteArray} {nL : Nat} {own : String} {Ts : List Cond} {D : va_G} {tys : List (ClassId × FieldType)} {A : Nat → Prop} {ret : Option FieldType} {pc : Nat} {ls : Array Slot} {rest : List Value} {ws ws' b : va_W}
variable {cI cC cS : ClassId} {h hn : Nat} {adn : Nat → Nat} {hsn : Nat} {ads : Nat → Nat} {hh har hw : Nat} {adw : Nat → Nat} {σ ς : Int → Int} {hs : Nat → Nat} {ha : Nat → Nat → Nat} {η : Nat → Int → Int} {dp : Int} {τ kd am sd q u : Int → Int}
theorem q_getU {index : Nat} {v : Value} (C : Cx p s m args meth c cc nL own Ts D tys A ret) (hP : va_P D vwCl (uW cI cC cS h hn adn hsn ads hh har hw adw σ ς hs ha η dp τ kd am sd q u) H) (hin : ∀ w ∈ wsX30, w ∈ Ts) (k : Nat) (hk : k < 7) (hlink : Cond.fieldLink own index (TX3 k).1 (TX3 k).2.1 (TX3 k).2.2.1 ∈ Ts) (hv : (uFs hn hsn hh hw u)[k]? = some v) (hdg : decode cc pc = .ok (.getfield index, 3))
    (kk : W p l e R s m args below meth c H locs cells slots Q (F0 m (pc + 3) ls (v :: rest))) : W p l e R s m args below meth c H locs cells slots Q (F0 m pc ls (.ref h :: rest)) :=
  q_get (Cn := RX3) (T := TX3) (N := 7) (ci := 3) C hP hin 0 rfl rfl k hk hlink hv hdg kk
theorem q_putU {index : Nat} {v : Int} {ty : FieldType} (C : Cx p s m args meth c cc nL own Ts D tys A ret) (w : Wd D A s (uW cI cC cS h hn adn hsn ads hh har hw adw σ ς hs ha η dp τ kd am sd q u) H locs) (hin : ∀ w ∈ wsX30, w ∈ Ts) (k : Nat) (hk : k = 4 ∨ k = 5 ∨ k = 6) (hlink : Cond.fieldLink own index (TX3 k).1 (TX3 k).2.1 (TX3 k).2.2.1 ∈ Ts) (hfin : (TX3 k).2.2.2 = false) (hd : parseFieldDescriptor (TX3 k).2.2.1 = some ty) (hn' : narrow ty (.int (jj v)) = .int (jj v)) (hfit : fits ty (.int (jj v)) = true) (hdg : decode cc pc = .ok (.putfield index, 3))
    (kk : ∀ (H1 : Heap) (locs1 : List Loc), Wd D A s (uW cI cC cS h hn adn hsn ads hh har hw adw σ ς hs ha η dp τ kd am sd q (up u (k : Int) v)) H1 locs1 → W p l e R s m args below meth c H1 locs1 cells slots Q (F0 m (pc + 3) ls rest)) : W p l e R s m args below meth c H locs cells slots Q (F0 m pc ls (.int (jj v) :: .ref h :: rest)) :=
  q_put (Cn := RX3) (T := TX3) (N := 7) (ci := 3) (fs := uFs hn hsn hh hw u) C w hin tyX3 tyX3_ok nmX3 0 rfl rfl k (by omega) hlink hfin hd hn' hfit (by show k < 7; omega) hdg (uP k v hk) kk
theorem q_getH {index : Nat} {v : Value} (C : Cx p s m args meth c cc nL own Ts D tys A ret) (hP : va_P D vwCl (hV cI cS h har adn hs ha η dp) H) (hin : ∀ w ∈ wsX00, w ∈ Ts) (k : Nat) (hk : k < 2) (hlink : Cond.fieldLink own index (TX0 k).1 (TX0 k).2.1 (TX0 k).2.2.1 ∈ Ts) (hv : ([.ref har, .int (jj dp)] : List Value)[k]? = some v) (hdg : decode cc pc = .ok (.getfield index, 3))
    (kk : W p l e R s m args below meth c H locs cells slots Q (F0 m (pc + 3) ls (v :: rest))) : W p l e R s m args below meth c H locs cells slots Q (F0 m pc ls (.ref h :: rest)) :=
  q_get (Cn := RX0) (T := TX0) (N := 2) (ci := 0) C hP hin 0 rfl rfl k hk hlink hv hdg kk
theorem q_putH {index : Nat} {v : Int} (C : Cx p s m args meth c cc nL own Ts D tys A ret) (w : Wd D A s (hW cI cS h har hs ha η dp) H locs) (hin : ∀ w ∈ wsX00, w ∈ Ts) (hlink : Cond.fieldLink own index (TX0 1).1 (TX0 1).2.1 (TX0 1).2.2.1 ∈ Ts) (hdg : decode cc pc = .ok (.putfield index, 3))
    (kk : ∀ (H1 : Heap) (locs1 : List Loc), Wd D A s (hW cI cS h har hs ha η v) H1 locs1 → W p l e R s m args below meth c H1 locs1 cells slots Q (F0 m (pc + 3) ls rest)) : W p l e R s m args below meth c H locs cells slots Q (F0 m pc ls (.int (jj v) :: .ref h :: rest)) :=
  q_put (Cn := RX0) (T := TX0) (N := 2) (ci := 0) (ty := .int) (fs := [.ref har, .int (jj dp)]) C w hin tyX0 tyX0_ok nmX0 0 rfl rfl 1 (by omega) hlink rfl rfl rfl rfl (by show 1 < 2; omega) hdg rfl kk
/-- a state of the history by its place -/
theorem q_Hld {i : Int} (C : Cx p s m args meth c cc nL own Ts D (tz cI cC cS) A ret) (hP : va_P D vwCl (hV cI cS h har adn hs ha η dp) H) (hi : 0 ≤ i ∧ i < 5) (hdg : decode cc pc = .ok (.aaload, 1))
    (kk : W p l e R s m args below meth c H locs cells slots Q (F0 m (pc + 1) ls (.ref (adn i.toNat) :: rest))) : W p l e R s m args below meth c H locs cells slots Q (F0 m pc ls (.int (jj i) :: .ref har :: rest)) := by
  have e1 := jj_cl (i := i) hi.1 (by omega)
  have e2 : (jj i).toNatClampNeg = i.toNat := by omega
  refine va_aldq (C := RX1) (f := fun i => some (adn i)) C.1 C.2.1 C.K hP 1 2 rfl rfl (jj_in hi.1 (by omega) (by omega)) hdg ?_
  rw [e2]; exact kk
def upA (f : Nat → Nat) (k v : Nat) : Nat → Nat := fun i => if i = k then v else f i
theorem q_Hst {i : Int} {v qk : Nat} {vs : List Value} (C : Cx p s m args meth c cc nL own Ts D (tz cI cC cS) A ret) (w : Wd D A s (hV cI cS h har adn hs ha η dp) H locs) (hi : 0 ≤ i ∧ i < 5) (hv : (hV cI cS h har adn hs ha η dp)[qk]? = some (v, .inr (1, vs))) (hdg : decode cc pc = .ok (.aastore, 1))
    (kk : ∀ (H1 : Heap) (locs1 : List Loc), Wd D A s (hV cI cS h har (upA adn i.toNat v) hs ha η dp) H1 locs1 → W p l e R s m args below meth c H1 locs1 cells slots Q (F0 m (pc + 1) ls rest)) : W p l e R s m args below meth c H locs cells slots Q (F0 m pc ls (.ref v :: .int (jj i) :: .ref har :: rest)) := by
  have e1 := jj_cl (i := i) hi.1 (by omega)
  have e2 : (jj i).toNatClampNeg = i.toNat := by omega
  refine va_astq (r := (RX1, TX1, 17)) (ci := 1) (f := fun i => some (adn i)) C.1 C.2.1 C.K w.1 w.2.1 w.2.2 1 2 qk rfl rfl hv rfl (jj_in hi.1 (by omega) (by omega)) hdg (fun H1 locs1 hP hD hS => ?_)
  have e3 : va_up (fun i => some (adn i)) (jj i).toNatClampNeg (some v) = fun j => some (upA adn i.toNat v j) := by
    funext j; unfold va_up upA
    rw [e2]
    by_cases c : j = i.toNat
    · rw [if_pos c, if_pos c]
    · rw [if_neg c, if_neg c]
  rw [e3] at hP hD
  exact kk H1 locs1 ⟨hP, hD, hS⟩
end QU
def kh {α : Type} (dp : Int) (f : Nat → α) : Nat → α := if dp < 4 then f else rotN f
def kdp (dp : Int) : Int := if dp < 4 then dp + 1 else dp
def rcH {α : Type} (v dp : Int) (f : Nat → α) : Nat → α := if 0 ≤ v then kh dp f else f
def rcP (v dp : Int) : Int := if 0 ≤ v then kdp dp else dp
theorem rot_A (hs : Nat → Nat) : upA (upA (upA (upA (upA hs 0 (hs 1)) 1 (hs 2)) 2 (hs 3)) 3 (hs 4)) 4 (hs 0) = rotN hs := by
  funext i
  match i with
  | 0 => rfl
  | 1 => rfl
  | 2 => rfl
  | 3 => rfl
  | 4 => rfl
  | n + 5 =>
    unfold upA rotN
    rw [if_neg (by omega), if_neg (by omega), if_neg (by omega), if_neg (by omega), if_neg (by omega), if_neg (by omega), if_neg (by omega)]
theorem kdp_b {dp : Int} (h : 0 ≤ dp ∧ dp ≤ 4) : 0 ≤ kdp dp ∧ kdp dp ≤ 4 := by unfold kdp; split <;> omega
theorem rcP_b {v dp : Int} (h : 0 ≤ dp ∧ dp ≤ 4) : 0 ≤ rcP v dp ∧ rcP v dp ≤ 4 := by
  unfold rcP; split
  · exact kdp_b h
  · exact h
/-! doing a thing, as the class does it -/
def hpU (σ : Int → Int) (cL nu sd : Int) : Int := if cL = 103 then guA σ nu sd else if cL = 46 then pu2 σ nu else if cL = 99 then seu σ else swu σ nu
def hpV (σ : Int → Int) (cL nu sd : Int) : Int → Int := if cL = 103 then guW σ nu sd else if cL = 46 then pvW σ nu else if cL = 99 then sevW σ else swv σ nu
def aU (τ σ : Int → Int) (le P : Int) : Int := hpU σ (ltr τ le P) (tnu τ le P) (tsi τ le P)
def aV (τ σ : Int → Int) (le P : Int) : Int → Int := hpV σ (ltr τ le P) (tnu τ le P) (tsi τ le P)
abbrev stA (u : Int) : Prop := -4 ≤ u ∧ u ≤ -1
def ars1 (τ : Int → Int) (le j : Int) (x : (Int → Int) × Int × Int) : (Int → Int) × Int × Int := if x.2.2 = 0 then (if stA (aU τ x.1 le (itp τ le j).1) then (aV τ x.1 le (itp τ le j).1, x.2.1, aU τ x.1 le (itp τ le j).1) else (aV τ x.1 le (itp τ le j).1, x.2.1 + 1, 0)) else x
def ars (τ σ : Int → Int) (le n : Int) : (Int → Int) × Int × Int := it (ars1 τ le) (σ, 0, 0) n
theorem ars_s (τ σ : Int → Int) (le : Int) {n : Int} (h : 0 ≤ n) : ars τ σ le (n + 1) = ars1 τ le n (ars τ σ le n) := it_s _ _ h
def ar (τ σ : Int → Int) (le : Int) : (Int → Int) × Int × Int := ars τ σ le ((fin τ le).2 + 1)
theorem ars_stay {τ σ : Int → Int} {le n : Int} (hn : 0 ≤ n) (hc : (ars τ σ le n).2.2 ≠ 0) : ∀ k : Nat, ars τ σ le (n + k) = ars τ σ le n := by
  intro k
  induction k with
  | zero => rw [show n + ((0 : Nat) : Int) = n by omega]
  | succ k ih =>
    rw [show n + ((k + 1 : Nat) : Int) = (n + k) + 1 by omega, ars_s τ σ le (by omega), ih]
    unfold ars1; rw [if_neg hc]
theorem ar_stop {τ σ : Int → Int} {le n : Int} {st : Int → Int} (hn : 0 ≤ n) (hn2 : n ≤ (fin τ le).2) (hs : (st, n, 0) = ars τ σ le n) (hu : stA (aU τ st le (itp τ le n).1)) : ar τ σ le = (aV τ st le (itp τ le n).1, n, aU τ st le (itp τ le n).1) := by
  have h1 : ars τ σ le (n + 1) = (aV τ st le (itp τ le n).1, n, aU τ st le (itp τ le n).1) := by
    rw [ars_s τ σ le hn, ← hs]
    unfold ars1
    rw [if_pos rfl, if_pos (show stA (aU τ (st, n, 0).1 le (itp τ le n).1) from hu)]
  have h3 := ars_stay (τ := τ) (σ := σ) (le := le) (n := n + 1) (by omega) (by rw [h1]; show aU τ st le (itp τ le n).1 ≠ 0; omega) ((fin τ le).2 - n).toNat
  rw [show n + 1 + ((((fin τ le).2 - n).toNat : Nat) : Int) = (fin τ le).2 + 1 by omega, h1] at h3
  exact h3
theorem ars_go {τ σ : Int → Int} {le n : Int} {st : Int → Int} (hn : 0 ≤ n) (hs : (st, n, 0) = ars τ σ le n) (hu : ¬ stA (aU τ st le (itp τ le n).1)) : (aV τ st le (itp τ le n).1, n + 1, 0) = ars τ σ le (n + 1) := by
  rw [ars_s τ σ le hn, ← hs]
  unfold ars1
  rw [if_pos rfl, if_neg (show ¬ stA (aU τ (st, n, 0).1 le (itp τ le n).1) from hu)]
theorem ar_end {τ σ : Int → Int} {le n : Int} {st : Int → Int} (hs : (st, n, 0) = ars τ σ le n) (he : n = (fin τ le).2 + 1) : ar τ σ le = (st, n, 0) := by
  unfold ar; rw [← he, ← hs]
theorem fr_same {ws wc w1 ws' : va_W} (h : Fr ws wc w1 ws') : Fr ws wc wc ws := by
  obtain ⟨v, h1, -⟩ := h
  exact ⟨v, h1, h1.symm⟩
