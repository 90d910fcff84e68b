theorem fr_nil {ws : va_W} : Fr ws [] [] ws := ⟨ws, List.Perm.refl _, List.Perm.refl _⟩
section QX
variable {p : Program} {l : Launch} {e : Env} {R : Room} {s : State} {m : MethodId} {args : Array Value} {below : List Frame} {meth : Method} {c : Code} {H : Heap} {locs : List Loc} {cells slots : Nat} {Q : State → Prop}
variable {cc : ByteArray} {nL : Nat} {own : String} {Ts : List Cond} {D : va_G} {tys : List (ClassId × FieldType)} {A : Nat → Prop} {ret : Option FieldType} {pc : Nat} {ls : Array Slot} {rest : List Value} {ws ws' : va_W}
theorem q_tabIn {dflt lo hi : Int} {offs : Array Int} {len : Nat} {x v : Int} {off : Int} {tgt : Nat} (C : Cx p s m args meth c cc nL own Ts D tys A ret) (hdg : decode cc pc = .ok (.tableswitch dflt lo hi offs, len)) (hx : x = v) (hb : -2147483648 ≤ x ∧ x ≤ 2147483647) (h1 : ¬ v < lo) (h2 : ¬ hi < v) (ho : offs[(v - lo).toNat]? = some off) (ht : (pc : Int) + off = (tgt : Int))
    (kk : W p l e R s m args below meth c H locs cells slots Q (F0 m tgt ls rest)) : W p l e R s m args below meth c H locs cells slots Q (F0 m pc ls (.int (jj x) :: rest)) :=
  lv_tableIn C.1 C.2.1 hdg (by rw [jj_toInt hb.1 hb.2, hx]; exact h1) (by rw [jj_toInt hb.1 hb.2, hx]; exact h2) (by rw [jj_toInt hb.1 hb.2, hx]; exact ho) ht kk
theorem q_tabOut {dflt lo hi : Int} {offs : Array Int} {len : Nat} {x : Int} {tgt : Nat} (C : Cx p s m args meth c cc nL own Ts D tys A ret) (hdg : decode cc pc = .ok (.tableswitch dflt lo hi offs, len)) (hb : -2147483648 ≤ x ∧ x ≤ 2147483647) (h : x < lo ∨ hi < x) (ht : (pc : Int) + dflt = (tgt : Int))
    (kk : W p l e R s m args below meth c H locs cells slots Q (F0 m tgt ls rest)) : W p l e R s m args below meth c H locs cells slots Q (F0 m pc ls (.int (jj x) :: rest)) :=
  lv_tableOut C.1 C.2.1 hdg (by rw [jj_toInt hb.1 hb.2]; exact h) ht kk
theorem q_lookIn {dflt : Int} {ps : Array (Int × Int)} {len : Nat} {x v : Int} {off : Int} {tgt : Nat} (C : Cx p s m args meth c cc nL own Ts D tys A ret) (hdg : decode cc pc = .ok (.lookupswitch dflt ps, len)) (hx : x = v) (hb : -2147483648 ≤ x ∧ x ≤ 2147483647) (hp : (ps.toList.zip (ps.toList.drop 1)).all (fun (a, next) => a.1 < next.1) = true) (ho : Op.lookupswitch.offset ps.toList dflt v = off) (ht : (pc : Int) + off = (tgt : Int))
    (kk : W p l e R s m args below meth c H locs cells slots Q (F0 m tgt ls rest)) : W p l e R s m args below meth c H locs cells slots Q (F0 m pc ls (.int (jj x) :: rest)) :=
  lv_lookup C.1 C.2.1 hdg hp (by rw [jj_toInt hb.1 hb.2, hx]; exact ho) ht kk
theorem jj_char (x : Int) : ((jj x).toUInt32 % 65536).toInt32 = jj (x % 65536) := by
  have e1 : (jj x).toBitVec = BitVec.ofInt 32 x := by unfold jj; rfl
  rw [pk_char, e1]
  show Int32.ofNat _ = Int32.ofInt _
  rw [← Int32.ofInt_eq_ofNat]
  have h1 : (BitVec.ofInt 32 x).toNat = (x % 4294967296).toNat := by simp [BitVec.toNat_ofInt]
  rw [h1]
  congr 1
  have h2 : 0 ≤ x % 4294967296 := Int.emod_nonneg _ (by decide)
  have h3 : (((x % 4294967296).toNat % 65536 : Nat) : Int) = (x % 4294967296) % 65536 := by omega
  rw [h3]; omega
theorem q_i2c {x : Int} (C : Cx p s m args meth c cc nL own Ts D tys A ret) (hdg : decode cc pc = .ok (.i2c, 1)) (kk : W p l e R s m args below meth c H locs cells slots Q (F0 m (pc + 1) ls (.int (jj (x % 65536)) :: rest))) : W p l e R s m args below meth c H locs cells slots Q (F0 m pc ls (.int (jj x) :: rest)) :=
  lv_i2c C.1 C.2.1 hdg (jj_char x) kk
end QX
