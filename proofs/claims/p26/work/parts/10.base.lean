/-! The words of this proof: ints as jj of an Int, arrays as ac of a function, the world (Wd), what holds in a walk (Cx), and one row an instruction over them. -/
def jj (z : Int) : Int32 := Int32.ofInt z
theorem jj_of (x : Int32) : jj x.toInt = x := Int32.ofInt_toInt x
theorem jj_toInt {z : Int} (h1 : -2147483648 ≤ z) (h2 : z ≤ 2147483647) : (jj z).toInt = z := by
  unfold jj
  exact Int32.toInt_ofInt_of_le (by omega) (by omega)
theorem jj_lo (x : Int32) : -2147483648 ≤ x.toInt := by
  have := Int32.le_toInt x; omega
theorem jj_hi (x : Int32) : x.toInt ≤ 2147483647 := by
  have := Int32.toInt_lt x; omega
theorem jj_add (a b : Int) : jj a + jj b = jj (a + b) := (Int32.ofInt_add a b).symm
theorem jj_sub (a b : Int) : jj a - jj b = jj (a - b) := (Int32.ofInt_sub a b).symm
theorem jj_mul (a b : Int) : jj a * jj b = jj (a * b) := (Int32.ofInt_mul a b).symm
theorem jj_neg (a : Int) : -jj a = jj (-a) := (Int32.ofInt_neg a).symm
theorem jj_div {a b : Int} (ha : 0 ≤ a) (ha2 : a ≤ 2147483647) (hb : 0 < b) (hb2 : b ≤ 2147483647) : jj a / jj b = jj (a / b) := by
  have h0 : 0 ≤ a / b := Int.ediv_nonneg ha (by omega)
  have h1 : a / b ≤ a := Int.ediv_le_self b ha
  apply Int32.toInt_inj.mp
  rw [lg_idiv_nonneg (by rw [jj_toInt (by omega) ha2]; omega) (by rw [jj_toInt (by omega) hb2]; omega), jj_toInt (by omega) ha2, jj_toInt (by omega) hb2, jj_toInt (by omega) (by omega)]
theorem jj_inj {a b : Int} (h1 : -2147483648 ≤ a) (h2 : a ≤ 2147483647) (h3 : -2147483648 ≤ b) (h4 : b ≤ 2147483647) : jj a = jj b ↔ a = b := by
  rw [← Int32.toInt_inj, jj_toInt h1 h2, jj_toInt h3 h4]
theorem jj_le {a b : Int} (h1 : -2147483648 ≤ a) (h2 : a ≤ 2147483647) (h3 : -2147483648 ≤ b) (h4 : b ≤ 2147483647) : jj a ≤ jj b ↔ a ≤ b := by
  rw [Int32.le_iff_toInt_le, jj_toInt h1 h2, jj_toInt h3 h4]
theorem jj_lt {a b : Int} (h1 : -2147483648 ≤ a) (h2 : a ≤ 2147483647) (h3 : -2147483648 ≤ b) (h4 : b ≤ 2147483647) : jj a < jj b ↔ a < b := by
  rw [Int32.lt_iff_toInt_lt, jj_toInt h1 h2, jj_toInt h3 h4]
theorem jj_cl {i : Int} (h0 : 0 ≤ i) (h1 : i ≤ 2147483647) : ((jj i).toNatClampNeg : Int) = i := by
  have := jj_toInt (z := i) (by omega) h1
  have h2 : (jj i).toNatClampNeg = (jj i).toInt.toNat := rfl
  rw [h2, this]; omega
theorem jj_in {i : Int} {n : Nat} (h0 : 0 ≤ i) (h1 : i < n) (h2 : i ≤ 2147483647) : vp_in (jj i) n := by
  rw [vp_in_iff, jj_toInt (by omega) h2]; omega
/-- a truth value as an int -/
def bI (P : Prop) [Decidable P] : Int := if P then 1 else 0
theorem bI_t {P : Prop} [Decidable P] (h : P) : bI P = 1 := if_pos h
theorem bI_f {P : Prop} [Decidable P] (h : ¬ P) : bI P = 0 := if_neg h
theorem bI_lo (P : Prop) [Decidable P] : 0 ≤ bI P := by unfold bI; split <;> omega
theorem bI_hi (P : Prop) [Decidable P] : bI P ≤ 1 := by unfold bI; split <;> omega
theorem bI_0 {P : Prop} [Decidable P] : jj (bI P) = 0 ↔ ¬ P := by
  by_cases h : P
  · rw [bI_t h]; exact ⟨fun q => absurd q (by decide), fun q => absurd h q⟩
  · rw [bI_f h]; exact ⟨fun _ => h, fun _ => by decide⟩
def up (f : Int → Int) (i v : Int) : Int → Int := fun j => if j = i then v else f j
theorem up_s (f : Int → Int) (i v : Int) : up f i v i = v := if_pos rfl
theorem up_n (f : Int → Int) {i j : Int} (v : Int) (h : j ≠ i) : up f i v j = f j := if_neg h
theorem up_same (f : Int → Int) (i : Int) : up f i (f i) = f := by
  funext j; unfold up; split
  · next h => rw [h]
  · rfl
/-- an array's cells -/
def ac (f : Int → Int) : Nat → Int32 := fun k => jj (f (k : Int))
theorem ac_ld (f : Int → Int) {i : Int} (h0 : 0 ≤ i) (h1 : i ≤ 2147483647) : ac f (jj i).toNatClampNeg = jj (f i) := by
  unfold ac; rw [jj_cl h0 h1]
theorem ac_st (f : Int → Int) {i : Int} (v : Int) (h0 : 0 ≤ i) (h1 : i ≤ 2147483647) : upd (ac f) (jj i).toNatClampNeg (jj v) = ac (up f i v) := by
  funext k
  unfold upd ac up
  have := jj_cl h0 h1
  by_cases h : k = (jj i).toNatClampNeg
  · rw [if_pos h, if_pos (by omega)]
  · rw [if_neg h, if_neg (by omega)]
/-! iteration -/
def itN {α : Type} (f : Int → α → α) (a : α) : Nat → α
  | 0 => a
  | k + 1 => f (k : Int) (itN f a k)
def it {α : Type} (f : Int → α → α) (a : α) (i : Int) : α := itN f a i.toNat
theorem it_0 {α : Type} (f : Int → α → α) (a : α) : it f a 0 = a := rfl
theorem it_z {α : Type} (f : Int → α → α) (a : α) {i : Int} (h : i ≤ 0) : it f a i = a := by
  unfold it; rw [show i.toNat = 0 by omega]; rfl
theorem it_s {α : Type} (f : Int → α → α) (a : α) {i : Int} (h : 0 ≤ i) : it f a (i + 1) = f i (it f a i) := by
  unfold it
  rw [show (i + 1).toNat = i.toNat + 1 by omega]
  show f ((i.toNat : Nat) : Int) _ = _
  rw [show ((i.toNat : Nat) : Int) = i by omega]
/-- what holds of each step holds of the whole -/
theorem it_ind {α : Type} (f : Int → α → α) (a : α) (P : Int → α → Prop) (n : Int) (h0 : P 0 a) (hs : ∀ i x, 0 ≤ i → i < n → P i x → P (i + 1) (f i x)) : ∀ i, 0 ≤ i → i ≤ n → P i (it f a i) := by
  intro i hi hn
  have key : ∀ k : Nat, (k : Int) ≤ n → P k (itN f a k) := by
    intro k
    induction k with
    | zero => intro _; exact h0
    | succ k ih =>
      intro hk
      have := hs k (itN f a k) (by omega) (by omega) (ih (by omega))
      exact this
  have := key i.toNat (by omega)
  unfold it
  rw [show ((i.toNat : Nat) : Int) = i by omega] at this
  exact this
theorem it_cong {α : Type} (f g : Int → α → α) (a : α) (n : Int) (h : ∀ i x, 0 ≤ i → i < n → f i x = g i x) : it f a n = it g a n := by
  rcases Int.le_total n 0 with h0 | h0
  · rw [it_z _ _ h0, it_z _ _ h0]
  · have := it_ind f a (fun i x => x = it g a i) n rfl (fun i x h1 h2 hx => by rw [h i x h1 h2, hx, it_s g a h1]) n h0 (Int.le_refl n)
    exact this
