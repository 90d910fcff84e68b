/-! Texts: τ its characters, le its length. -/
def ltr (τ : Int → Int) (le P : Int) : Int := if P < le then τ P else 0
abbrev lok (x : Int) : Prop := x = 103 ∨ x = 46 ∨ x = 99 ∨ x = 120
abbrev nok (τ : Int → Int) (le P ls : Int) : Prop := 48 + ls ≤ ltr τ le P ∧ ltr τ le P ≤ 57
abbrev two (τ : Int → Int) (le P ms : Int) : Prop := 0 < ltr τ le P - 48 ∧ P + 1 < le ∧ (48 ≤ τ (P + 1) ∧ τ (P + 1) ≤ 57) ∧ 10 * (ltr τ le P - 48) + τ (P + 1) - 48 ≤ ms
def nva (τ : Int → Int) (le P ms : Int) : Int := if two τ le P ms then 10 * (ltr τ le P - 48) + (τ (P + 1) - 48) else ltr τ le P - 48
def nen (τ : Int → Int) (le P ms : Int) : Int := if two τ le P ms then P + 2 else P + 1
abbrev tok (τ : Int → Int) (le P : Int) : Prop := ltr τ le P = 99 ∨ (ltr τ le P = 120 ∧ nok τ le (P + 1) 0) ∨ ((ltr τ le P = 103 ∨ ltr τ le P = 46) ∧ nok τ le (P + 1) 1)
def tnu (τ : Int → Int) (le P : Int) : Int := if ltr τ le P = 99 then 0 else if ltr τ le P = 120 then nva τ le (P + 1) 15 else nva τ le (P + 1) 99
def tmi (τ : Int → Int) (le P : Int) : Int := if ltr τ le P = 99 then P + 1 else if ltr τ le P = 120 then nen τ le (P + 1) 15 else nen τ le (P + 1) 99
def tsi (τ : Int → Int) (le P : Int) : Int := if ltr τ le P = 103 ∧ tmi τ le P < le ∧ τ (tmi τ le P) = 60 then 1 else if ltr τ le P = 103 ∧ tmi τ le P < le ∧ τ (tmi τ le P) = 62 then 2 else 0
def ten (τ : Int → Int) (le P : Int) : Int := if 0 < tsi τ le P then tmi τ le P + 1 else tmi τ le P
def tfl (τ : Int → Int) (le P : Int) : Int := if lok (ltr τ le P) then P + 1 else P
theorem ltr_in {τ : Int → Int} {le P : Int} (h : P < le) : ltr τ le P = τ P := if_pos h
theorem ltr_out {τ : Int → Int} {le P : Int} (h : le ≤ P) : ltr τ le P = 0 := if_neg (by omega)
theorem nva_b {τ : Int → Int} {le P ls ms : Int} (h : nok τ le P ls) (h0 : 0 ≤ ls) (hm : 9 ≤ ms) : ls ≤ nva τ le P ms ∧ nva τ le P ms ≤ ms := by
  unfold nva; split <;> omega
theorem nen_b {τ : Int → Int} {le P ls ms : Int} (h : nok τ le P ls) (h0 : 0 ≤ ls) : P + 1 ≤ nen τ le P ms ∧ nen τ le P ms ≤ P + 2 ∧ nen τ le P ms ≤ le := by
  have h1 : P < le := by
    rcases Int.lt_or_le P le with h2 | h2
    · exact h2
    · have := ltr_out (τ := τ) h2; omega
  unfold nen; split <;> omega
theorem tok_lt {τ : Int → Int} {le P : Int} (h : tok τ le P) : P < le := by
  rcases Int.lt_or_le P le with h2 | h2
  · exact h2
  · have := ltr_out (τ := τ) h2; omega
theorem tmi_b {τ : Int → Int} {le P : Int} (h : tok τ le P) : P + 1 ≤ tmi τ le P ∧ tmi τ le P ≤ P + 3 ∧ tmi τ le P ≤ le := by
  have h1 := tok_lt h
  unfold tmi
  by_cases e1 : ltr τ le P = 99
  · rw [if_pos e1]; omega
  · rw [if_neg e1]
    by_cases e2 : ltr τ le P = 120
    · rw [if_pos e2]
      have := nen_b (τ := τ) (le := le) (P := P + 1) (ls := 0) (ms := 15) (by omega) (by omega)
      omega
    · rw [if_neg e2]
      have := nen_b (τ := τ) (le := le) (P := P + 1) (ls := 1) (ms := 99) (by omega) (by omega)
      omega
theorem tsi_b (τ : Int → Int) (le P : Int) : 0 ≤ tsi τ le P ∧ tsi τ le P ≤ 2 ∧ (0 < tsi τ le P → tmi τ le P < le) := by
  unfold tsi; (repeat' split) <;> omega
theorem ten_b {τ : Int → Int} {le P : Int} (h : tok τ le P) : P + 1 ≤ ten τ le P ∧ ten τ le P ≤ P + 4 ∧ ten τ le P ≤ le := by
  have h1 := tmi_b h
  have h2 := tsi_b τ le P
  unfold ten; split <;> omega
theorem tnu_b {τ : Int → Int} {le P : Int} (h : tok τ le P) : 0 ≤ tnu τ le P ∧ tnu τ le P ≤ 99 ∧ (ltr τ le P = 120 → tnu τ le P ≤ 15) ∧ (ltr τ le P = 103 ∨ ltr τ le P = 46 → 1 ≤ tnu τ le P) := by
  unfold tnu
  by_cases e1 : ltr τ le P = 99
  · rw [if_pos e1]; omega
  · rw [if_neg e1]
    by_cases e2 : ltr τ le P = 120
    · rw [if_pos e2]
      have := nva_b (τ := τ) (le := le) (P := P + 1) (ls := 0) (ms := 15) (by omega) (by omega) (by omega)
      omega
    · rw [if_neg e2]
      have := nva_b (τ := τ) (le := le) (P := P + 1) (ls := 1) (ms := 99) (by omega) (by omega) (by omega)
      omega
/-- the text goes on behind the thing at P -/
abbrev cont (τ : Int → Int) (le P : Int) : Prop := tok τ le P ∧ ten τ le P < le ∧ τ (ten τ le P) = 59
def nxt (τ : Int → Int) (le : Int) (x : Int × Int) : Int × Int := if cont τ le x.1 then (ten τ le x.1 + 1, x.2 + 1) else x
def itp (τ : Int → Int) (le n : Int) : Int × Int := it (fun _ x => nxt τ le x) (0, 0) n
/-- the last thing's place, and how many stand ahead of it -/
def fin (τ : Int → Int) (le : Int) : Int × Int := itp τ le 40
theorem itp_s (τ : Int → Int) (le : Int) {n : Int} (h : 0 ≤ n) : itp τ le (n + 1) = nxt τ le (itp τ le n) := it_s _ _ h
theorem itp_b (τ : Int → Int) {le : Int} (hl : 0 ≤ le) (n : Int) (hn : 0 ≤ n) : 0 ≤ (itp τ le n).2 ∧ (itp τ le n).2 ≤ n ∧ 2 * (itp τ le n).2 ≤ (itp τ le n).1 ∧ (itp τ le n).1 ≤ le :=
  it_ind (fun _ x => nxt τ le x) (0, 0) (fun n x => 0 ≤ x.2 ∧ x.2 ≤ n ∧ 2 * x.2 ≤ x.1 ∧ x.1 ≤ le) n ⟨Int.le_refl 0, Int.le_refl 0, Int.le_refl 0, hl⟩ (fun i x h0 h1 hx => by
    show 0 ≤ (nxt τ le x).2 ∧ (nxt τ le x).2 ≤ i + 1 ∧ 2 * (nxt τ le x).2 ≤ (nxt τ le x).1 ∧ (nxt τ le x).1 ≤ le
    unfold nxt
    by_cases c : cont τ le x.1
    · rw [if_pos c]
      have := ten_b c.1
      have c2 := c.2.1
      refine ⟨?_, ?_, ?_, ?_⟩
      · show 0 ≤ x.2 + 1; omega
      · show x.2 + 1 ≤ i + 1; omega
      · show 2 * (x.2 + 1) ≤ ten τ le x.1 + 1; omega
      · show ten τ le x.1 + 1 ≤ le; omega
    · rw [if_neg c]; omega) n hn (Int.le_refl n)
/-- once it stops it stays -/
theorem itp_stay {τ : Int → Int} {le : Int} {n : Int} (hn : 0 ≤ n) (hc : ¬ cont τ le (itp τ le n).1) : ∀ k : Nat, itp τ le (n + k) = itp τ le n := by
  intro k
  induction k with
  | zero => rw [show n + ((0 : Nat) : Int) = n by omega]
  | succ k ih =>
    rw [show n + ((k + 1 : Nat) : Int) = (n + k) + 1 by omega, itp_s τ le (by omega), ih]
    unfold nxt; rw [if_neg hc]
theorem fin_at {τ : Int → Int} {le n P : Int} (hn : 0 ≤ n) (hn2 : n ≤ 40) (he : (P, n) = itp τ le n) (hc : ¬ cont τ le P) : fin τ le = (P, n) := by
  have e1 : P = (itp τ le n).1 := by rw [← he]
  rw [e1] at hc
  have := itp_stay hn hc (40 - n).toNat
  rw [show n + (((40 - n).toNat : Nat) : Int) = 40 by omega] at this
  unfold fin; rw [this, he]
/-- as long as it goes on the count is the step's number -/
theorem itp_go {τ : Int → Int} {le n P : Int} (hn : 0 ≤ n) (he : (P, n) = itp τ le n) (hc : cont τ le P) : (ten τ le P + 1, n + 1) = itp τ le (n + 1) := by
  rw [itp_s τ le hn, ← he]
  unfold nxt
  rw [if_pos (show cont τ le (P, n).1 from hc)]
/-- the text is weather -/
abbrev wok (τ : Int → Int) (le : Int) : Prop := tok τ le (fin τ le).1 ∧ le ≤ ten τ le (fin τ le).1
def flt (τ : Int → Int) (le : Int) : Int := if tok τ le (fin τ le).1 then ten τ le (fin τ le).1 else tfl τ le (fin τ le).1
theorem wok_at {τ : Int → Int} {le n P : Int} (hw : wok τ le) (hn : 0 ≤ n) (hn2 : n ≤ 40) (he : (P, n) = itp τ le n) : tok τ le P ∧ (ten τ le P < le → cont τ le P) := by
  by_cases c : cont τ le P
  · exact ⟨c.1, fun _ => c⟩
  · have hf := fin_at hn hn2 he c
    unfold wok at hw
    rw [hf] at hw
    have h1 : tok τ le P := hw.1
    have h2 : le ≤ ten τ le P := hw.2
    exact ⟨h1, fun h => absurd h (by omega)⟩
/-! the model's fields behind a thing -/
def rq (τ q : Int → Int) (le P : Int) : Int → Int := up (up (up (up (up q 12 (ltr τ le P)) 13 (tnu τ le P)) 14 (tsi τ le P)) 11 0) 10 (ten τ le P)
def bq (τ q : Int → Int) (le P : Int) : Int → Int := up (up (up (up (up q 12 (ltr τ le P)) 13 (ltr τ le (tfl τ le P) - 48)) 14 0) 11 1) 10 (tfl τ le P)
theorem up4 (q : Int → Int) (a b x y : Int) : up (up (up (up q 11 a) 10 b) 11 x) 10 y = up (up q 11 x) 10 y := by
  funext k; simp only [up]; (repeat' split) <;> first | rfl | omega
theorem upr1 (q : Int → Int) (a b x f g i : Int) : up (up (up (up (up (up q 12 a) 11 b) 10 x) 13 f) 14 g) 10 i = up (up (up (up (up q 12 a) 13 f) 14 g) 11 b) 10 i := by
  funext k; simp only [up]; (repeat' split) <;> first | rfl | omega
theorem upr2 (q : Int → Int) (a b x d e f g i : Int) : up (up (up (up (up (up (up (up q 12 a) 11 b) 10 x) 11 d) 10 e) 13 f) 14 g) 10 i = up (up (up (up (up q 12 a) 13 f) 14 g) 11 d) 10 i := by
  funext k; simp only [up]; (repeat' split) <;> first | rfl | omega
/-! doing a thing -/
def exU (σ : Int → Int) (cL nu sd : Int) : Int := if cL = 103 then gur σ nu sd else if cL = 46 then pau σ nu else if cL = 99 then seu σ else swu σ nu
def exV (σ : Int → Int) (cL nu sd : Int) : Int → Int := if cL = 103 then gus σ nu sd else if cL = 46 then pas σ nu else if cL = 99 then sev σ else swv σ nu
abbrev stp (u : Int) : Prop := u < 0 ∧ u ≠ -5 ∧ -10 < u
def xU (τ σ : Int → Int) (le P : Int) : Int := exU σ (ltr τ le P) (tnu τ le P) (tsi τ le P)
def xV (τ σ : Int → Int) (le P : Int) : Int → Int := exV σ (ltr τ le P) (tnu τ le P) (tsi τ le P)
/-- a run: the state, how many things are done, why it stopped -/
def ers1 (τ : Int → Int) (le j : Int) (x : (Int → Int) × Int × Int) : (Int → Int) × Int × Int := if x.2.2 = 0 then (if stp (xU τ x.1 le (itp τ le j).1) then (xV τ x.1 le (itp τ le j).1, x.2.1, xU τ x.1 le (itp τ le j).1) else (xV τ x.1 le (itp τ le j).1, x.2.1 + 1, 0)) else x
def ers (τ σ : Int → Int) (le n : Int) : (Int → Int) × Int × Int := it (ers1 τ le) (σ, 0, 0) n
theorem ers_s (τ σ : Int → Int) (le : Int) {n : Int} (h : 0 ≤ n) : ers τ σ le (n + 1) = ers1 τ le n (ers τ σ le n) := it_s _ _ h
def er (τ σ : Int → Int) (le : Int) : (Int → Int) × Int × Int := ers τ σ le ((fin τ le).2 + 1)
theorem ers_stay {τ σ : Int → Int} {le n : Int} (hn : 0 ≤ n) (hc : (ers τ σ le n).2.2 ≠ 0) : ∀ k : Nat, ers τ σ le (n + k) = ers τ σ le n := by
  intro k
  induction k with
  | zero => rw [show n + ((0 : Nat) : Int) = n by omega]
  | succ k ih =>
    rw [show n + ((k + 1 : Nat) : Int) = (n + k) + 1 by omega, ers_s τ σ le (by omega), ih]
    unfold ers1; rw [if_neg hc]
theorem itp_le {τ : Int → Int} {le n : Int} (hl : 0 ≤ le) (hn : 0 ≤ n) (hn2 : n ≤ 40) : (itp τ le n).2 ≤ (fin τ le).2 := by
  have key : ∀ k : Nat, (itp τ le n).2 ≤ (itp τ le (n + k)).2 := by
    intro k
    induction k with
    | zero => rw [show n + ((0 : Nat) : Int) = n by omega]; omega
    | succ k ih =>
      rw [show n + ((k + 1 : Nat) : Int) = (n + k) + 1 by omega, itp_s τ le (by omega)]
      unfold nxt; split
      · show _ ≤ (itp τ le (n + k)).2 + 1; omega
      · exact ih
  have := key (40 - n).toNat
  rw [show n + (((40 - n).toNat : Nat) : Int) = 40 by omega] at this
  exact this
theorem er_stop {τ σ : Int → Int} {le n P : Int} {st : Int → Int} (hl : 0 ≤ le) (hn : 0 ≤ n) (hn2 : n ≤ 39) (he : (P, n) = itp τ le n) (hs : (st, n, 0) = ers τ σ le n) (hu : stp (xU τ st le P)) : er τ σ le = (xV τ st le P, n, xU τ st le P) := by
  have e1 : P = (itp τ le n).1 := by rw [← he]
  have h1 : ers τ σ le (n + 1) = (xV τ st le P, n, xU τ st le P) := by
    rw [ers_s τ σ le hn, ← hs]
    unfold ers1
    rw [if_pos rfl, ← e1, if_pos (show stp (xU τ (st, n, 0).1 le P) from hu)]
  have h2 := itp_le (τ := τ) hl hn (by omega)
  rw [← he] at h2
  have h2 : n ≤ (fin τ le).2 := h2
  have h3 := ers_stay (τ := τ) (σ := σ) (le := le) (n := n + 1) (by omega) (by rw [h1]; show xU τ st le P ≠ 0; omega) ((fin τ le).2 - n).toNat
  rw [show n + 1 + ((((fin τ le).2 - n).toNat : Nat) : Int) = (fin τ le).2 + 1 by omega, h1] at h3
  exact h3
theorem ers_go {τ σ : Int → Int} {le n P : Int} {st : Int → Int} (hn : 0 ≤ n) (he : (P, n) = itp τ le n) (hs : (st, n, 0) = ers τ σ le n) (hu : ¬ stp (xU τ st le P)) : (xV τ st le P, n + 1, 0) = ers τ σ le (n + 1) := by
  have e1 : P = (itp τ le n).1 := by rw [← he]
  rw [ers_s τ σ le hn, ← hs]
  unfold ers1
  rw [if_pos rfl, ← e1, if_neg (show ¬ stp (xU τ (st, n, 0).1 le P) from hu)]
theorem er_end {τ σ : Int → Int} {le n P : Int} {st : Int → Int} (hn : 0 ≤ n) (hn2 : n ≤ 39) (he : (P, n) = itp τ le n) (hc : ¬ cont τ le P) (hs : (st, n, 0) = ers τ σ le n) (hu : ¬ stp (xU τ st le P)) : er τ σ le = (xV τ st le P, n + 1, 0) := by
  have hf := fin_at hn (by omega) he hc
  unfold er
  rw [hf]
  exact (ers_go hn he hs hu).symm
theorem gt_v {fs : List Value} {k : Nat} {a b : Int} (h : fs[k]? = some (.int (jj a))) (e : a = b) : fs[k]? = some (.int (jj b)) := e ▸ h
theorem ltr_b {τ : Int → Int} {le P : Int} (hP : 0 ≤ P) (h : ∀ x : Int, 0 ≤ x → x < le → 0 ≤ τ x ∧ τ x ≤ 65535) : 0 ≤ ltr τ le P ∧ ltr τ le P ≤ 65535 := by
  unfold ltr; split
  · exact h P hP (by omega)
  · omega
def bx (τ q : Int → Int) (le : Int) : Int → Int := if tok τ le (fin τ le).1 then up (rq τ q le (fin τ le).1) 15 0 else up (bq τ q le (fin τ le).1) 15 0
/-- the place of the thing that is done last -/
def lastP (τ σ : Int → Int) (le : Int) : Int := (itp τ le (if (er τ σ le).2.2 = 0 then (er τ σ le).2.1 - 1 else (er τ σ le).2.1)).1
