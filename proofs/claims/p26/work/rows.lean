section
-- ===== PART A: goes FIRST, ahead of the names: the tables' words, and 'selects' of the private methods out of them =====
/-- a private method of a class that the tables say can be made, by its rows of tables_1 -/
def lw_okq (q : MethodName × Nat) : Prop := (q.1.cls ≠ "java/lang/invoke/MethodHandle" ∧ q.1.cls ≠ "java/lang/invoke/VarHandle") ∧ Cond.instantiable q.1.cls q.2 ∈ tables_1 ∧ Cond.privateMethod q.1 ∈ tables_1 ∧ Cond.instanceMethod q.1 ∈ tables_1
theorem lw_p0 : lw_okq (⟨"UmbrellaQueue", "recorded", "(I)I"⟩, 7) := ⟨⟨by decide +kernel, by decide +kernel⟩, List.mem_of_getElem? (i := 8) (by decide +kernel), List.mem_of_getElem? (i := 186) (by decide +kernel), List.mem_of_getElem? (i := 187) (by decide +kernel)⟩
theorem lw_p1 : lw_okq (⟨"UmbrellaQueue$State", "peopleToServe", "()I"⟩, 17) := ⟨⟨by decide +kernel, by decide +kernel⟩, List.mem_of_getElem? (i := 16) (by decide +kernel), List.mem_of_getElem? (i := 205) (by decide +kernel), List.mem_of_getElem? (i := 206) (by decide +kernel)⟩
theorem lw_p2 : lw_okq (⟨"UmbrellaQueue$State", "fareForAll", "()I"⟩, 17) := ⟨⟨by decide +kernel, by decide +kernel⟩, List.mem_of_getElem? (i := 16) (by decide +kernel), List.mem_of_getElem? (i := 216) (by decide +kernel), List.mem_of_getElem? (i := 217) (by decide +kernel)⟩
theorem lw_p3 : lw_okq (⟨"UmbrellaQueue$State", "remove", "(I)V"⟩, 17) := ⟨⟨by decide +kernel, by decide +kernel⟩, List.mem_of_getElem? (i := 16) (by decide +kernel), List.mem_of_getElem? (i := 283) (by decide +kernel), List.mem_of_getElem? (i := 284) (by decide +kernel)⟩
theorem lw_p4 : lw_okq (⟨"UmbrellaQueue$State", "wetterBy", "(III)I"⟩, 17) := ⟨⟨by decide +kernel, by decide +kernel⟩, List.mem_of_getElem? (i := 16) (by decide +kernel), List.mem_of_getElem? (i := 371) (by decide +kernel), List.mem_of_getElem? (i := 372) (by decide +kernel)⟩
theorem lw_p5 : lw_okq (⟨"UmbrellaQueue$State", "removeSoaked", "()I"⟩, 17) := ⟨⟨by decide +kernel, by decide +kernel⟩, List.mem_of_getElem? (i := 16) (by decide +kernel), List.mem_of_getElem? (i := 394) (by decide +kernel), List.mem_of_getElem? (i := 395) (by decide +kernel)⟩
theorem lw_p6 : lw_okq (⟨"UmbrellaQueue$State", "totalWetnessAfter", "(II)I"⟩, 17) := ⟨⟨by decide +kernel, by decide +kernel⟩, List.mem_of_getElem? (i := 16) (by decide +kernel), List.mem_of_getElem? (i := 413) (by decide +kernel), List.mem_of_getElem? (i := 414) (by decide +kernel)⟩
def lw_privs_1 : List (MethodName × Nat) := [(⟨"UmbrellaQueue", "recorded", "(I)I"⟩, 7), (⟨"UmbrellaQueue$State", "peopleToServe", "()I"⟩, 17), (⟨"UmbrellaQueue$State", "fareForAll", "()I"⟩, 17), (⟨"UmbrellaQueue$State", "remove", "(I)V"⟩, 17), (⟨"UmbrellaQueue$State", "wetterBy", "(III)I"⟩, 17), (⟨"UmbrellaQueue$State", "removeSoaked", "()I"⟩, 17), (⟨"UmbrellaQueue$State", "totalWetnessAfter", "(II)I"⟩, 17)]
theorem lw_r1 : ∀ q ∈ lw_privs_1, lw_okq q := List.forall_mem_cons.mpr ⟨lw_p0, List.forall_mem_cons.mpr ⟨lw_p1, List.forall_mem_cons.mpr ⟨lw_p2, List.forall_mem_cons.mpr ⟨lw_p3, List.forall_mem_cons.mpr ⟨lw_p4, List.forall_mem_cons.mpr ⟨lw_p5, List.forall_mem_cons.mpr ⟨lw_p6, fun _ h => absurd h List.not_mem_nil⟩⟩⟩⟩⟩⟩⟩
def lw_privs : List (MethodName × Nat) := lw_privs_1
def lw_tbl : List Cond := k2_sels lw_privs ++ tables_1
theorem lw_privs_ok : ∀ q ∈ lw_privs, lw_okq q := lw_r1
end
section
/-! ===== BEGIN words of one list among another's, by their places ===== -/
theorem goodIn_r {big : List Cond} (ws : List Cond) (ps : List Nat) (hp : ws = ps.filterMap (fun i => big[i]?)) (h : ws.all goodWord = true) : GoodIn big ws := by
  intro w hw
  have h1 := List.all_eq_true.mp h w hw
  rw [hp] at hw
  obtain ⟨i, -, hi⟩ := List.mem_filterMap.mp hw
  have hm : w ∈ big := by first | exact List.mem_of_getElem? hi | exact List.getElem?_mem hi
  exact ⟨hm, good_of_word h1⟩
theorem goodIn_app {big a b : List Cond} (ha : GoodIn big a) (hb : GoodIn big b) : GoodIn big (a ++ b) := fun w h => (List.mem_append.mp h).elim (ha w) (hb w)
theorem goodIn_ca {big a b : List Cond} {c : Cond} (ha : GoodIn big (c :: a)) (hb : GoodIn big b) : GoodIn big (c :: (a ++ b)) := fun w h => (List.mem_cons.mp h).elim (fun e => ha w (List.mem_cons.mpr (Or.inl e))) (fun h => (List.mem_append.mp h).elim (fun h => ha w (List.mem_cons.mpr (Or.inr h))) (hb w))
theorem goodIn_sub {big ws : List Cond} (hm : ∀ w ∈ ws, w ∈ big) (h : ws.all goodWord = true) : GoodIn big ws := fun w hw => ⟨hm w hw, good_of_word (List.all_eq_true.mp h w hw)⟩
/-! ===== END ===== -/

/-! ===== BEGIN printed: names, fields, word lists, decode rows ===== -/
def RX0 : String := "UmbrellaQueue$History"
def TX0 : u_T := fun k => match k with
  | 0 => ("UmbrellaQueue$History", "states", "[LUmbrellaQueue$State;", true)
  | _ => ("UmbrellaQueue$History", "depth", "I", false)
def tyX0 : Nat → FieldType := fun k => match k with
  | 0 => .array (.object "UmbrellaQueue$State")
  | _ => .int
abbrev wsX00 : List Cond := u_ws RX0 TX0 2
theorem nmX0 : ∀ a, a < 2 → ∀ b, b < 2 → a ≠ b → (TX0 a).2.1 ≠ (TX0 b).2.1 := by decide +kernel
theorem tyX0_ok : ∀ k, k < 2 → parseFieldDescriptor (TX0 k).2.2.1 = some (tyX0 k) := by decide +kernel
abbrev cX0_init : ByteArray := prog_2_method_1_code
def yX0_init : MethodName := ⟨RX0, "<init>", "()V"⟩
abbrev cX0_drafted : ByteArray := prog_2_method_2_code
def yX0_drafted : MethodName := ⟨RX0, "drafted", "()LUmbrellaQueue$State;"⟩
abbrev cX0_draft : ByteArray := prog_2_method_3_code
def yX0_draft : MethodName := ⟨RX0, "draft", "(LUmbrellaQueue$State;)V"⟩
abbrev cX0_keepDraft : ByteArray := prog_2_method_4_code
def yX0_keepDraft : MethodName := ⟨RX0, "keepDraft", "()V"⟩
abbrev cX0_takeLatest : ByteArray := prog_2_method_5_code
def yX0_takeLatest : MethodName := ⟨RX0, "takeLatest", "()LUmbrellaQueue$State;"⟩
def RX1 : String := "UmbrellaQueue$State"
def TX1 : u_T := fun k => match k with
  | 0 => ("UmbrellaQueue$State", "numbers", "[I", true)
  | 1 => ("UmbrellaQueue$State", "wetness", "[I", true)
  | 2 => ("UmbrellaQueue$State", "patience", "[I", true)
  | 3 => ("UmbrellaQueue$State", "coins", "[I", true)
  | 4 => ("UmbrellaQueue$State", "widths", "[I", true)
  | 5 => ("UmbrellaQueue$State", "swapped", "[I", true)
  | 6 => ("UmbrellaQueue$State", "settings", "[I", true)
  | 7 => ("UmbrellaQueue$State", "size", "I", false)
  | 8 => ("UmbrellaQueue$State", "came", "I", false)
  | 9 => ("UmbrellaQueue$State", "left", "I", false)
  | 10 => ("UmbrellaQueue$State", "soaked", "I", false)
  | 11 => ("UmbrellaQueue$State", "served", "I", false)
  | 12 => ("UmbrellaQueue$State", "paid", "I", false)
  | 13 => ("UmbrellaQueue$State", "unpaid", "I", false)
  | 14 => ("UmbrellaQueue$State", "swaps", "I", false)
  | 15 => ("UmbrellaQueue$State", "gusts", "I", false)
  | _ => ("UmbrellaQueue$State", "minutes", "I", false)
def tyX1 : Nat → FieldType := fun k => match k with
  | 0 => .array .int
  | 1 => .array .int
  | 2 => .array .int
  | 3 => .array .int
  | 4 => .array .int
  | 5 => .array .int
  | 6 => .array .int
  | 7 => .int
  | 8 => .int
  | 9 => .int
  | 10 => .int
  | 11 => .int
  | 12 => .int
  | 13 => .int
  | 14 => .int
  | 15 => .int
  | _ => .int
abbrev wsX10 : List Cond := u_ws RX1 TX1 17
theorem nmX1 : ∀ a, a < 17 → ∀ b, b < 17 → a ≠ b → (TX1 a).2.1 ≠ (TX1 b).2.1 := by decide +kernel
theorem tyX1_ok : ∀ k, k < 17 → parseFieldDescriptor (TX1 k).2.2.1 = some (tyX1 k) := by decide +kernel
abbrev cX1_init : ByteArray := prog_3_method_1_code
def yX1_init : MethodName := ⟨RX1, "<init>", "()V"⟩
abbrev cX1_copyFrom : ByteArray := prog_3_method_2_code
def yX1_copyFrom : MethodName := ⟨RX1, "copyFrom", "(LUmbrellaQueue$State;)V"⟩
abbrev cX1_isPlace : ByteArray := prog_3_method_3_code
def yX1_isPlace : MethodName := ⟨RX1, "isPlace", "(I)Z"⟩
abbrev cX1_hasNeighbour : ByteArray := prog_3_method_4_code
def yX1_hasNeighbour : MethodName := ⟨RX1, "hasNeighbour", "(I)Z"⟩
abbrev cX1_admit : ByteArray := prog_3_method_5_code
/-- the name of the method whose code stands at place k of one of the Statement's tables -/
def lw_nameAt (k : Nat) : String := match tables_1_2[k]? with | some (.code y _ _ _) => y.name | _ => ""
/-- a method of the class: its name is read from the Statement's own tables -/
def yX1_admit : MethodName := ⟨RX1, lw_nameAt 29, "(III)I"⟩
abbrev cX1_dismiss : ByteArray := prog_3_method_6_code
def yX1_dismiss : MethodName := ⟨RX1, "dismiss", "(I)I"⟩
abbrev cX1_changePlaces : ByteArray := prog_3_method_7_code
def yX1_changePlaces : MethodName := ⟨RX1, "changePlaces", "(I)I"⟩
abbrev cX1_swapUmbrellas : ByteArray := prog_3_method_8_code
def yX1_swapUmbrellas : MethodName := ⟨RX1, "swapUmbrellas", "(I)I"⟩
abbrev cX1_changeSetting : ByteArray := prog_3_method_9_code
def yX1_changeSetting : MethodName := ⟨RX1, "changeSetting", "(II)I"⟩
abbrev cX1_rain : ByteArray := prog_3_method_10_code
def yX1_rain : MethodName := ⟨RX1, "rain", "(II)I"⟩
abbrev cX1_dry : ByteArray := prog_3_method_11_code
def yX1_dry : MethodName := ⟨RX1, "dry", "(I)I"⟩
abbrev cX1_serveFirst : ByteArray := prog_3_method_12_code
def yX1_serveFirst : MethodName := ⟨RX1, "serveFirst", "()I"⟩
abbrev cX1_removeSoaked : ByteArray := prog_3_method_13_code
def yX1_removeSoaked : MethodName := ⟨RX1, "removeSoaked", "()I"⟩
abbrev cX1_remove : ByteArray := prog_3_method_14_code
def yX1_remove : MethodName := ⟨RX1, "remove", "(I)V"⟩
abbrev cX1_closeGap : ByteArray := prog_3_method_15_code
def yX1_closeGap : MethodName := ⟨RX1, "closeGap", "([II)V"⟩
abbrev cX1_exchange : ByteArray := prog_3_method_16_code
def yX1_exchange : MethodName := ⟨RX1, "exchange", "([II)V"⟩
abbrev cX1_leastReached : ByteArray := prog_3_method_17_code
def yX1_leastReached : MethodName := ⟨RX1, "leastReached", "(I)I"⟩
abbrev cX1_greatestReached : ByteArray := prog_3_method_18_code
def yX1_greatestReached : MethodName := ⟨RX1, "greatestReached", "(I)I"⟩
abbrev cX1_umbrellasOver : ByteArray := prog_3_method_19_code
def yX1_umbrellasOver : MethodName := ⟨RX1, "umbrellasOver", "(I)I"⟩
abbrev cX1_umbrellasRunningOnto : ByteArray := prog_3_method_20_code
def yX1_umbrellasRunningOnto : MethodName := ⟨RX1, "umbrellasRunningOnto", "(I)I"⟩
abbrev cX1_placesUnreached : ByteArray := prog_3_method_21_code
def yX1_placesUnreached : MethodName := ⟨RX1, "placesUnreached", "()I"⟩
abbrev cX1_isCovered : ByteArray := prog_3_method_22_code
def yX1_isCovered : MethodName := ⟨RX1, "isCovered", "(II)Z"⟩
abbrev cX1_wetnessAfter : ByteArray := prog_3_method_23_code
def yX1_wetnessAfter : MethodName := ⟨RX1, "wetnessAfter", "(III)I"⟩
abbrev cX1_wetterBy : ByteArray := prog_3_method_24_code
def yX1_wetterBy : MethodName := ⟨RX1, "wetterBy", "(III)I"⟩
abbrev cX1_gustsBorne : ByteArray := prog_3_method_25_code
def yX1_gustsBorne : MethodName := ⟨RX1, "gustsBorne", "(II)I"⟩
abbrev cX1_totalWetnessAfter : ByteArray := prog_3_method_26_code
def yX1_totalWetnessAfter : MethodName := ⟨RX1, "totalWetnessAfter", "(II)I"⟩
abbrev cX1_refusal : ByteArray := prog_3_method_27_code
def yX1_refusal : MethodName := ⟨RX1, "refusal", "(I)I"⟩
abbrev cX1_driestSwap : ByteArray := prog_3_method_28_code
def yX1_driestSwap : MethodName := ⟨RX1, "driestSwap", "(II)I"⟩
abbrev cX1_peopleToServe : ByteArray := prog_3_method_29_code
def yX1_peopleToServe : MethodName := ⟨RX1, "peopleToServe", "()I"⟩
abbrev cX1_fareForAll : ByteArray := prog_3_method_30_code
def yX1_fareForAll : MethodName := ⟨RX1, "fareForAll", "()I"⟩
abbrev cX1_driestToServe : ByteArray := prog_3_method_31_code
def yX1_driestToServe : MethodName := ⟨RX1, "driestToServe", "()I"⟩
abbrev cX1_paidFrom : ByteArray := prog_3_method_32_code
def yX1_paidFrom : MethodName := ⟨RX1, "paidFrom", "(I)I"⟩
abbrev cX1_totalWetness : ByteArray := prog_3_method_33_code
def yX1_totalWetness : MethodName := ⟨RX1, "totalWetness", "()I"⟩
abbrev cX1_wettest : ByteArray := prog_3_method_34_code
def yX1_wettest : MethodName := ⟨RX1, "wettest", "()I"⟩
def RX2 : String := "UmbrellaQueue$Weather"
def TX2 : u_T := fun k => match k with
  | 0 => ("UmbrellaQueue$Weather", "text", "[C", true)
  | 1 => ("UmbrellaQueue$Weather", "length", "I", false)
  | 2 => ("UmbrellaQueue$Weather", "kinds", "[C", true)
  | 3 => ("UmbrellaQueue$Weather", "amounts", "[I", true)
  | 4 => ("UmbrellaQueue$Weather", "sides", "[I", true)
  | 5 => ("UmbrellaQueue$Weather", "things", "I", false)
  | _ => ("UmbrellaQueue$Weather", "index", "I", false)
def tyX2 : Nat → FieldType := fun k => match k with
  | 0 => .array .char
  | 1 => .int
  | 2 => .array .char
  | 3 => .array .int
  | 4 => .array .int
  | 5 => .int
  | _ => .int
abbrev wsX20 : List Cond := u_ws RX2 TX2 7
theorem nmX2 : ∀ a, a < 7 → ∀ b, b < 7 → a ≠ b → (TX2 a).2.1 ≠ (TX2 b).2.1 := by decide +kernel
theorem tyX2_ok : ∀ k, k < 7 → parseFieldDescriptor (TX2 k).2.2.1 = some (tyX2 k) := by decide +kernel
abbrev cX2_init : ByteArray := prog_4_method_1_code
def yX2_init : MethodName := ⟨RX2, "<init>", "()V"⟩
def RX3 : String := "UmbrellaQueue"
def TX3 : u_T := fun k => match k with
  | 0 => ("UmbrellaQueue", "now", "LUmbrellaQueue$State;", true)
  | 1 => ("UmbrellaQueue", "snapshot", "LUmbrellaQueue$State;", true)
  | 2 => ("UmbrellaQueue", "history", "LUmbrellaQueue$History;", true)
  | 3 => ("UmbrellaQueue", "weather", "LUmbrellaQueue$Weather;", true)
  | 4 => ("UmbrellaQueue", "hasSnapshot", "Z", false)
  | 5 => ("UmbrellaQueue", "stopNumber", "I", false)
  | _ => ("UmbrellaQueue", "stopError", "I", false)
def tyX3 : Nat → FieldType := fun k => match k with
  | 0 => .object "UmbrellaQueue$State"
  | 1 => .object "UmbrellaQueue$State"
  | 2 => .object "UmbrellaQueue$History"
  | 3 => .object "UmbrellaQueue$Weather"
  | 4 => .boolean
  | 5 => .int
  | _ => .int
abbrev wsX30 : List Cond := u_ws RX3 TX3 7
theorem nmX3 : ∀ a, a < 7 → ∀ b, b < 7 → a ≠ b → (TX3 a).2.1 ≠ (TX3 b).2.1 := by decide +kernel
theorem tyX3_ok : ∀ k, k < 7 → parseFieldDescriptor (TX3 k).2.2.1 = some (tyX3 k) := by decide +kernel
abbrev cX3_init : ByteArray := prog_1_method_1_code
def yX3_init : MethodName := ⟨RX3, "<init>", "()V"⟩
abbrev cX3_come : ByteArray := prog_1_method_2_code
def yX3_come : MethodName := ⟨RX3, "come", "(III)I"⟩
abbrev cX3_leave : ByteArray := prog_1_method_3_code
def yX3_leave : MethodName := ⟨RX3, "leave", "(I)I"⟩
abbrev cX3_letAhead : ByteArray := prog_1_method_4_code
def yX3_letAhead : MethodName := ⟨RX3, "letAhead", "(I)I"⟩
abbrev cX3_swap : ByteArray := prog_1_method_5_code
def yX3_swap : MethodName := ⟨RX3, "swap", "(I)I"⟩
abbrev cX3_set : ByteArray := prog_1_method_6_code
def yX3_set : MethodName := ⟨RX3, "set", "(II)I"⟩
abbrev cX3_gust : ByteArray := prog_1_method_7_code
def yX3_gust : MethodName := ⟨RX3, "gust", "(II)I"⟩
abbrev cX3_pass : ByteArray := prog_1_method_8_code
def yX3_pass : MethodName := ⟨RX3, "pass", "(I)I"⟩
abbrev cX3_serve : ByteArray := prog_1_method_9_code
def yX3_serve : MethodName := ⟨RX3, "serve", "()I"⟩
abbrev cX3_undo : ByteArray := prog_1_method_14_code
def yX3_undo : MethodName := ⟨RX3, "undo", "()I"⟩
abbrev cX3_restore : ByteArray := prog_1_method_16_code
def yX3_restore : MethodName := ⟨RX3, "restore", "()I"⟩
abbrev cX3_person : ByteArray := prog_1_method_17_code
def yX3_person : MethodName := ⟨RX3, "person", "(II)I"⟩
abbrev cX3_placeOf : ByteArray := prog_1_method_18_code
def yX3_placeOf : MethodName := ⟨RX3, "placeOf", "(I)I"⟩
abbrev cX3_ifGust : ByteArray := prog_1_method_19_code
def yX3_ifGust : MethodName := ⟨RX3, "ifGust", "(IIII)I"⟩
abbrev cX3_reason : ByteArray := prog_1_method_20_code
def yX3_reason : MethodName := ⟨RX3, "reason", "(I)I"⟩
abbrev cX3_bestSwap : ByteArray := prog_1_method_21_code
def yX3_bestSwap : MethodName := ⟨RX3, "bestSwap", "(II)I"⟩
abbrev cX3_payer : ByteArray := prog_1_method_22_code
def yX3_payer : MethodName := ⟨RX3, "payer", "(I)I"⟩
abbrev cX3_bears : ByteArray := prog_1_method_23_code
def yX3_bears : MethodName := ⟨RX3, "bears", "(II)I"⟩
abbrev cX3_count : ByteArray := prog_1_method_24_code
def yX3_count : MethodName := ⟨RX3, "count", "(I)I"⟩
abbrev cX3_recorded : ByteArray := prog_1_method_25_code
def yX3_recorded : MethodName := ⟨RX3, "recorded", "(I)I"⟩
abbrev cX3_isGust : ByteArray := prog_1_method_28_code
def yX3_isGust : MethodName := ⟨RX3, "isGust", "(II)Z"⟩
abbrev cX3_isWithin : ByteArray := prog_1_method_29_code
def yX3_isWithin : MethodName := ⟨RX3, "isWithin", "(III)Z"⟩
def RX4 : String := "UmbrellaQueueModel"
def TX4 : u_T := fun k => match k with
  | _ => ("", "", "", false)
def tyX4 : Nat → FieldType := fun k => match k with
  | _ => .int
abbrev wsX40 : List Cond := u_ws RX4 TX4 0
theorem nmX4 : ∀ a, a < 0 → ∀ b, b < 0 → a ≠ b → (TX4 a).2.1 ≠ (TX4 b).2.1 := by decide +kernel
theorem tyX4_ok : ∀ k, k < 0 → parseFieldDescriptor (TX4 k).2.2.1 = some (tyX4 k) := by decide +kernel
def RJ9 : String := "java/lang/Math"
def TJ9 : u_T := fun k => match k with
  | _ => ("", "", "", false)
def tyJ9 : Nat → FieldType := fun k => match k with
  | _ => .int
abbrev wsJ90 : List Cond := u_ws RJ9 TJ9 0
theorem nmJ9 : ∀ a, a < 0 → ∀ b, b < 0 → a ≠ b → (TJ9 a).2.1 ≠ (TJ9 b).2.1 := by decide +kernel
theorem tyJ9_ok : ∀ k, k < 0 → parseFieldDescriptor (TJ9 k).2.2.1 = some (tyJ9 k) := by decide +kernel
abbrev cJ9_max_7cf53 : ByteArray := prog_7_method_65_code
def yJ9_max_7cf53 : MethodName := ⟨RJ9, "max", "(II)I"⟩
abbrev cJ9_min_7cf53 : ByteArray := prog_7_method_69_code
def yJ9_min_7cf53 : MethodName := ⟨RJ9, "min", "(II)I"⟩
def RJ10 : String := "java/lang/System"
def TJ10 : u_T := fun k => match k with
  | _ => ("", "", "", false)
def tyJ10 : Nat → FieldType := fun k => match k with
  | _ => .int
abbrev wsJ100 : List Cond := u_ws RJ10 TJ10 0
theorem nmJ10 : ∀ a, a < 0 → ∀ b, b < 0 → a ≠ b → (TJ10 a).2.1 ≠ (TJ10 b).2.1 := by decide +kernel
theorem tyJ10_ok : ∀ k, k < 0 → parseFieldDescriptor (TJ10 k).2.2.1 = some (tyJ10 k) := by decide +kernel
def RL : String := "UmbrellaQueueLaw"
abbrev cL_cell : ByteArray := method_2_code
def yL_cell : MethodName := ⟨RL, "cell", "([II)I"⟩
abbrev cL_low : ByteArray := method_3_code
def yL_low : MethodName := ⟨RL, "low", "(II)I"⟩
abbrev cL_act : ByteArray := method_4_code
def yL_act : MethodName := ⟨RL, "act", "(LUmbrellaQueue;III)I"⟩
abbrev cL_gust : ByteArray := method_5_code
def yL_gust : MethodName := ⟨RL, "gust", "(LUmbrellaQueue;II)I"⟩
abbrev cL_reaches : ByteArray := method_6_code
def yL_reaches : MethodName := ⟨RL, "reaches", "(LUmbrellaQueue;II)Z"⟩
abbrev cL_isGust : ByteArray := method_7_code
def yL_isGust : MethodName := ⟨RL, "isGust", "(LUmbrellaQueue;III)Z"⟩
abbrev cL_isPerson : ByteArray := method_8_code
def yL_isPerson : MethodName := ⟨RL, "isPerson", "(LUmbrellaQueue;II)Z"⟩
abbrev cL_all : ByteArray := method_9_code
def yL_all : MethodName := ⟨RL, "all", "(LUmbrellaQueue;II)I"⟩
abbrev cL_isBest : ByteArray := method_10_code
def yL_isBest : MethodName := ⟨RL, "isBest", "(LUmbrellaQueue;II)Z"⟩
abbrev cL_holds : ByteArray := method_11_code
def yL_holds : MethodName := ⟨RL, "holds", "(LUmbrellaQueue;I)Z"⟩
abbrev cL_law : ByteArray := code
def yL_law : MethodName := ⟨RL, "law", "([I)Z"⟩
def wsX1_init : List Cond := .code yX1_init cX1_init 1 none :: ([.methodLink RX1 3 objectInit, .instanceMethod objectInit, .code objectInit ⟨#[0xb1]⟩ 1 none, .arrayClass .int, .fieldLink RX1 9 "UmbrellaQueue$State" "numbers" "[I", .fieldLink RX1 15 "UmbrellaQueue$State" "wetness" "[I", .fieldLink RX1 18 "UmbrellaQueue$State" "patience" "[I", .fieldLink RX1 21 "UmbrellaQueue$State" "coins" "[I", .fieldLink RX1 24 "UmbrellaQueue$State" "widths" "[I", .fieldLink RX1 27 "UmbrellaQueue$State" "swapped" "[I", .fieldLink RX1 30 "UmbrellaQueue$State" "settings" "[I"] ++ wsX10)
def wsX0_init : List Cond := .code yX0_init cX0_init 2 none :: ([.methodLink RX0 1 objectInit, .instanceMethod objectInit, .code objectInit ⟨#[0xb1]⟩ 1 none, .classLink RX0 9 RX1, .fieldLink RX0 11 "UmbrellaQueue$History" "states" "[LUmbrellaQueue$State;", .instantiable RX1 17, .initialized RX1, .instanceMethod yX1_init, .code yX1_init cX1_init 1 none, .methodLink RX1 3 objectInit, .arrayClass .int, .fieldLink RX1 9 "UmbrellaQueue$State" "numbers" "[I", .fieldLink RX1 15 "UmbrellaQueue$State" "wetness" "[I", .fieldLink RX1 18 "UmbrellaQueue$State" "patience" "[I", .fieldLink RX1 21 "UmbrellaQueue$State" "coins" "[I", .fieldLink RX1 24 "UmbrellaQueue$State" "widths" "[I", .fieldLink RX1 27 "UmbrellaQueue$State" "swapped" "[I", .fieldLink RX1 30 "UmbrellaQueue$State" "settings" "[I"] ++ wsX00 ++ wsX10)
def wsX0_drafted : List Cond := .code yX0_drafted cX0_drafted 1 (some (.object "UmbrellaQueue$State")) :: ([.fieldLink RX0 11 "UmbrellaQueue$History" "states" "[LUmbrellaQueue$State;", .fieldLink RX0 16 "UmbrellaQueue$History" "depth" "I"] ++ wsX00)
def wsX1_copyFrom : List Cond := .code yX1_copyFrom cX1_copyFrom 2 none :: ([.fieldLink RX1 9 "UmbrellaQueue$State" "numbers" "[I", .methodLink RX1 33 arraycopyName, .native arraycopyName, .static arraycopyName, .initialized "java/lang/System", .fieldLink RX1 15 "UmbrellaQueue$State" "wetness" "[I", .fieldLink RX1 18 "UmbrellaQueue$State" "patience" "[I", .fieldLink RX1 21 "UmbrellaQueue$State" "coins" "[I", .fieldLink RX1 24 "UmbrellaQueue$State" "widths" "[I", .fieldLink RX1 27 "UmbrellaQueue$State" "swapped" "[I", .fieldLink RX1 30 "UmbrellaQueue$State" "settings" "[I", .fieldLink RX1 39 "UmbrellaQueue$State" "size" "I", .fieldLink RX1 43 "UmbrellaQueue$State" "came" "I", .fieldLink RX1 46 "UmbrellaQueue$State" "left" "I", .fieldLink RX1 49 "UmbrellaQueue$State" "soaked" "I", .fieldLink RX1 52 "UmbrellaQueue$State" "served" "I", .fieldLink RX1 55 "UmbrellaQueue$State" "paid" "I", .fieldLink RX1 58 "UmbrellaQueue$State" "unpaid" "I", .fieldLink RX1 61 "UmbrellaQueue$State" "swaps" "I", .fieldLink RX1 64 "UmbrellaQueue$State" "gusts" "I", .fieldLink RX1 67 "UmbrellaQueue$State" "minutes" "I"] ++ wsX10)
def wsX0_draft_r1 : List Cond := [Cond.methodLink RX0 20 yX0_drafted, Cond.instanceMethod yX0_drafted, Cond.selects RX0 yX0_drafted yX0_drafted, Cond.initialized RX0, Cond.code yX0_drafted cX0_drafted 1 (some (.object "UmbrellaQueue$State")), Cond.fieldLink RX0 11 "UmbrellaQueue$History" "states" "[LUmbrellaQueue$State;", Cond.fieldLink RX0 16 "UmbrellaQueue$History" "depth" "I", Cond.methodLink RX0 24 yX1_copyFrom, Cond.instanceMethod yX1_copyFrom, Cond.selects RX1 yX1_copyFrom yX1_copyFrom, Cond.initialized RX1, Cond.code yX1_copyFrom cX1_copyFrom 2 none, Cond.fieldLink RX1 9 "UmbrellaQueue$State" "numbers" "[I", Cond.methodLink RX1 33 arraycopyName, Cond.native arraycopyName, Cond.static arraycopyName, Cond.initialized "java/lang/System", Cond.fieldLink RX1 15 "UmbrellaQueue$State" "wetness" "[I", Cond.fieldLink RX1 18 "UmbrellaQueue$State" "patience" "[I", Cond.fieldLink RX1 21 "UmbrellaQueue$State" "coins" "[I", Cond.fieldLink RX1 24 "UmbrellaQueue$State" "widths" "[I", Cond.fieldLink RX1 27 "UmbrellaQueue$State" "swapped" "[I", Cond.fieldLink RX1 30 "UmbrellaQueue$State" "settings" "[I", Cond.fieldLink RX1 39 "UmbrellaQueue$State" "size" "I"]
def wsX0_draft_r2 : List Cond := [Cond.fieldLink RX1 43 "UmbrellaQueue$State" "came" "I", Cond.fieldLink RX1 46 "UmbrellaQueue$State" "left" "I", Cond.fieldLink RX1 49 "UmbrellaQueue$State" "soaked" "I", Cond.fieldLink RX1 52 "UmbrellaQueue$State" "served" "I", Cond.fieldLink RX1 55 "UmbrellaQueue$State" "paid" "I", Cond.fieldLink RX1 58 "UmbrellaQueue$State" "unpaid" "I", Cond.fieldLink RX1 61 "UmbrellaQueue$State" "swaps" "I", Cond.fieldLink RX1 64 "UmbrellaQueue$State" "gusts" "I", Cond.fieldLink RX1 67 "UmbrellaQueue$State" "minutes" "I"]
def wsX0_draft : List Cond := .code yX0_draft cX0_draft 2 none :: ((wsX0_draft_r1 ++ wsX0_draft_r2) ++ wsX00 ++ wsX10)
def wsX0_keepDraft : List Cond := .code yX0_keepDraft cX0_keepDraft 3 none :: ([.fieldLink RX0 16 "UmbrellaQueue$History" "depth" "I", .fieldLink RX0 11 "UmbrellaQueue$History" "states" "[LUmbrellaQueue$State;"] ++ wsX00)
def wsX0_takeLatest : List Cond := .code yX0_takeLatest cX0_takeLatest 1 (some (.object "UmbrellaQueue$State")) :: ([.fieldLink RX0 16 "UmbrellaQueue$History" "depth" "I", .fieldLink RX0 11 "UmbrellaQueue$History" "states" "[LUmbrellaQueue$State;"] ++ wsX00)
def wsX1_isPlace : List Cond := .code yX1_isPlace cX1_isPlace 2 (some .boolean) :: ([.fieldLink RX1 39 "UmbrellaQueue$State" "size" "I"] ++ wsX10)
def wsX1_hasNeighbour : List Cond := .code yX1_hasNeighbour cX1_hasNeighbour 2 (some .boolean) :: ([.fieldLink RX1 39 "UmbrellaQueue$State" "size" "I"] ++ wsX10)
def wsX3_isWithin : List Cond := .code yX3_isWithin cX3_isWithin 3 (some .boolean) :: ([])
def wsX1_admit : List Cond := .code yX1_admit cX1_admit 5 (some .int) :: ([.fieldLink RX1 39 "UmbrellaQueue$State" "size" "I", .fieldLink RX1 43 "UmbrellaQueue$State" "came" "I", .fieldLink RX1 9 "UmbrellaQueue$State" "numbers" "[I", .fieldLink RX1 15 "UmbrellaQueue$State" "wetness" "[I", .fieldLink RX1 18 "UmbrellaQueue$State" "patience" "[I", .fieldLink RX1 21 "UmbrellaQueue$State" "coins" "[I", .fieldLink RX1 24 "UmbrellaQueue$State" "widths" "[I", .fieldLink RX1 27 "UmbrellaQueue$State" "swapped" "[I", .static yX3_isWithin, .initialized RX3, .code yX3_isWithin cX3_isWithin 3 (some .boolean)] ++ wsX10)
def wsX1_closeGap : List Cond := .code yX1_closeGap cX1_closeGap 2 none :: ([.methodLink RX1 33 arraycopyName, .native arraycopyName, .static arraycopyName, .initialized "java/lang/System"])
def wsX1_remove : List Cond := .code yX1_remove cX1_remove 2 none :: ([.fieldLink RX1 9 "UmbrellaQueue$State" "numbers" "[I", .fieldLink RX1 15 "UmbrellaQueue$State" "wetness" "[I", .fieldLink RX1 18 "UmbrellaQueue$State" "patience" "[I", .fieldLink RX1 21 "UmbrellaQueue$State" "coins" "[I", .fieldLink RX1 24 "UmbrellaQueue$State" "widths" "[I", .fieldLink RX1 27 "UmbrellaQueue$State" "swapped" "[I", .fieldLink RX1 39 "UmbrellaQueue$State" "size" "I", .methodLink RX1 130 yX1_closeGap, .static yX1_closeGap, .initialized RX1, .code yX1_closeGap cX1_closeGap 2 none, .methodLink RX1 33 arraycopyName, .native arraycopyName, .static arraycopyName, .initialized "java/lang/System"] ++ wsX10)
def wsX1_dismiss : List Cond := .code yX1_dismiss cX1_dismiss 3 (some .int) :: ([.fieldLink RX1 15 "UmbrellaQueue$State" "wetness" "[I", .fieldLink RX1 46 "UmbrellaQueue$State" "left" "I", .methodLink RX1 74 yX1_isPlace, .instanceMethod yX1_isPlace, .selects RX1 yX1_isPlace yX1_isPlace, .initialized RX1, .code yX1_isPlace cX1_isPlace 2 (some .boolean), .fieldLink RX1 39 "UmbrellaQueue$State" "size" "I", .methodLink RX1 78 yX1_remove, .instanceMethod yX1_remove, .selects RX1 yX1_remove yX1_remove, .code yX1_remove cX1_remove 2 none, .fieldLink RX1 9 "UmbrellaQueue$State" "numbers" "[I", .fieldLink RX1 18 "UmbrellaQueue$State" "patience" "[I", .fieldLink RX1 21 "UmbrellaQueue$State" "coins" "[I", .fieldLink RX1 24 "UmbrellaQueue$State" "widths" "[I", .fieldLink RX1 27 "UmbrellaQueue$State" "swapped" "[I", .methodLink RX1 130 yX1_closeGap, .static yX1_closeGap, .code yX1_closeGap cX1_closeGap 2 none, .methodLink RX1 33 arraycopyName, .native arraycopyName, .static arraycopyName, .initialized "java/lang/System"] ++ wsX10)
def wsX1_exchange : List Cond := .code yX1_exchange cX1_exchange 3 none :: ([])
def wsX1_changePlaces : List Cond := .code yX1_changePlaces cX1_changePlaces 2 (some .int) :: ([.fieldLink RX1 9 "UmbrellaQueue$State" "numbers" "[I", .fieldLink RX1 15 "UmbrellaQueue$State" "wetness" "[I", .fieldLink RX1 18 "UmbrellaQueue$State" "patience" "[I", .fieldLink RX1 21 "UmbrellaQueue$State" "coins" "[I", .fieldLink RX1 24 "UmbrellaQueue$State" "widths" "[I", .fieldLink RX1 27 "UmbrellaQueue$State" "swapped" "[I", .methodLink RX1 82 yX1_hasNeighbour, .instanceMethod yX1_hasNeighbour, .selects RX1 yX1_hasNeighbour yX1_hasNeighbour, .initialized RX1, .code yX1_hasNeighbour cX1_hasNeighbour 2 (some .boolean), .fieldLink RX1 39 "UmbrellaQueue$State" "size" "I", .methodLink RX1 85 yX1_exchange, .static yX1_exchange, .code yX1_exchange cX1_exchange 3 none] ++ wsX10)
def wsX1_refusal : List Cond := .code yX1_refusal cX1_refusal 7 (some .int) :: ([.fieldLink RX1 24 "UmbrellaQueue$State" "widths" "[I", .fieldLink RX1 15 "UmbrellaQueue$State" "wetness" "[I"] ++ wsX10)
def wsX1_swapUmbrellas : List Cond := .code yX1_swapUmbrellas cX1_swapUmbrellas 3 (some .int) :: ([.fieldLink RX1 24 "UmbrellaQueue$State" "widths" "[I", .fieldLink RX1 27 "UmbrellaQueue$State" "swapped" "[I", .fieldLink RX1 61 "UmbrellaQueue$State" "swaps" "I", .methodLink RX1 82 yX1_hasNeighbour, .instanceMethod yX1_hasNeighbour, .selects RX1 yX1_hasNeighbour yX1_hasNeighbour, .initialized RX1, .code yX1_hasNeighbour cX1_hasNeighbour 2 (some .boolean), .fieldLink RX1 39 "UmbrellaQueue$State" "size" "I", .methodLink RX1 89 yX1_refusal, .instanceMethod yX1_refusal, .selects RX1 yX1_refusal yX1_refusal, .code yX1_refusal cX1_refusal 7 (some .int), .fieldLink RX1 15 "UmbrellaQueue$State" "wetness" "[I", .methodLink RX1 85 yX1_exchange, .static yX1_exchange, .code yX1_exchange cX1_exchange 3 none] ++ wsX10)
def wsX1_changeSetting : List Cond := .code yX1_changeSetting cX1_changeSetting 4 (some .int) :: ([.fieldLink RX1 30 "UmbrellaQueue$State" "settings" "[I", .static yX3_isWithin, .initialized RX3, .code yX3_isWithin cX3_isWithin 3 (some .boolean)] ++ wsX10)
def wsX3_isGust : List Cond := .code yX3_isGust cX3_isGust 2 (some .boolean) :: ([.methodLink RX3 157 yX3_isWithin, .static yX3_isWithin, .initialized RX3, .code yX3_isWithin cX3_isWithin 3 (some .boolean)])
def wsX1_leastReached : List Cond := .code yX1_leastReached cX1_leastReached 2 (some .int) :: ([.fieldLink RX1 24 "UmbrellaQueue$State" "widths" "[I", .methodLink RX1 112 Lib.Math.max.name, .static Lib.Math.max.name, .initialized "java/lang/Math", .code Lib.Math.max.name Lib.Math.max.code 2 (some .int)] ++ wsX10)
def wsX1_greatestReached : List Cond := .code yX1_greatestReached cX1_greatestReached 2 (some .int) :: ([.fieldLink RX1 39 "UmbrellaQueue$State" "size" "I", .fieldLink RX1 24 "UmbrellaQueue$State" "widths" "[I", .methodLink RX1 133 Lib.Math.min.name, .static Lib.Math.min.name, .initialized "java/lang/Math", .code Lib.Math.min.name Lib.Math.min.code 2 (some .int)] ++ wsX10)
def wsX1_umbrellasRunningOnto : List Cond := .code yX1_umbrellasRunningOnto cX1_umbrellasRunningOnto 4 (some .int) :: ([.fieldLink RX1 39 "UmbrellaQueue$State" "size" "I", .fieldLink RX1 24 "UmbrellaQueue$State" "widths" "[I", .methodLink RX1 136 yX1_leastReached, .instanceMethod yX1_leastReached, .selects RX1 yX1_leastReached yX1_leastReached, .initialized RX1, .code yX1_leastReached cX1_leastReached 2 (some .int), .methodLink RX1 112 Lib.Math.max.name, .static Lib.Math.max.name, .initialized "java/lang/Math", .code Lib.Math.max.name Lib.Math.max.code 2 (some .int), .methodLink RX1 139 yX1_greatestReached, .instanceMethod yX1_greatestReached, .selects RX1 yX1_greatestReached yX1_greatestReached, .code yX1_greatestReached cX1_greatestReached 2 (some .int), .methodLink RX1 133 Lib.Math.min.name, .static Lib.Math.min.name, .code Lib.Math.min.name Lib.Math.min.code 2 (some .int)] ++ wsX10)
def wsX1_isCovered : List Cond := .code yX1_isCovered cX1_isCovered 6 (some .boolean) :: ([.fieldLink RX1 39 "UmbrellaQueue$State" "size" "I", .fieldLink RX1 24 "UmbrellaQueue$State" "widths" "[I", .methodLink RX1 136 yX1_leastReached, .instanceMethod yX1_leastReached, .selects RX1 yX1_leastReached yX1_leastReached, .initialized RX1, .code yX1_leastReached cX1_leastReached 2 (some .int), .methodLink RX1 112 Lib.Math.max.name, .static Lib.Math.max.name, .initialized "java/lang/Math", .code Lib.Math.max.name Lib.Math.max.code 2 (some .int), .methodLink RX1 139 yX1_greatestReached, .instanceMethod yX1_greatestReached, .selects RX1 yX1_greatestReached yX1_greatestReached, .code yX1_greatestReached cX1_greatestReached 2 (some .int), .methodLink RX1 133 Lib.Math.min.name, .static Lib.Math.min.name, .code Lib.Math.min.name Lib.Math.min.code 2 (some .int)] ++ wsX10)
def wsX1_wetterBy_r1 : List Cond := [Cond.methodLink RX1 148 yX1_umbrellasRunningOnto, Cond.instanceMethod yX1_umbrellasRunningOnto, Cond.selects RX1 yX1_umbrellasRunningOnto yX1_umbrellasRunningOnto, Cond.initialized RX1, Cond.code yX1_umbrellasRunningOnto cX1_umbrellasRunningOnto 4 (some .int), Cond.fieldLink RX1 39 "UmbrellaQueue$State" "size" "I", Cond.fieldLink RX1 24 "UmbrellaQueue$State" "widths" "[I", Cond.methodLink RX1 136 yX1_leastReached, Cond.instanceMethod yX1_leastReached, Cond.selects RX1 yX1_leastReached yX1_leastReached, Cond.code yX1_leastReached cX1_leastReached 2 (some .int), Cond.methodLink RX1 112 Lib.Math.max.name, Cond.static Lib.Math.max.name, Cond.initialized "java/lang/Math", Cond.code Lib.Math.max.name Lib.Math.max.code 2 (some .int), Cond.methodLink RX1 139 yX1_greatestReached, Cond.instanceMethod yX1_greatestReached, Cond.selects RX1 yX1_greatestReached yX1_greatestReached, Cond.code yX1_greatestReached cX1_greatestReached 2 (some .int), Cond.methodLink RX1 133 Lib.Math.min.name, Cond.static Lib.Math.min.name, Cond.code Lib.Math.min.name Lib.Math.min.code 2 (some .int), Cond.methodLink RX1 151 yX1_isCovered, Cond.instanceMethod yX1_isCovered]
def wsX1_wetterBy_r2 : List Cond := [Cond.selects RX1 yX1_isCovered yX1_isCovered, Cond.code yX1_isCovered cX1_isCovered 6 (some .boolean)]
def wsX1_wetterBy : List Cond := .code yX1_wetterBy cX1_wetterBy 5 (some .int) :: ((wsX1_wetterBy_r1 ++ wsX1_wetterBy_r2) ++ wsX10)
def wsX1_wetnessAfter_r1 : List Cond := [Cond.fieldLink RX1 15 "UmbrellaQueue$State" "wetness" "[I", Cond.methodLink RX1 133 Lib.Math.min.name, Cond.static Lib.Math.min.name, Cond.initialized "java/lang/Math", Cond.code Lib.Math.min.name Lib.Math.min.code 2 (some .int), Cond.methodLink RX1 145 yX1_wetterBy, Cond.instanceMethod yX1_wetterBy, Cond.selects RX1 yX1_wetterBy yX1_wetterBy, Cond.initialized RX1, Cond.code yX1_wetterBy cX1_wetterBy 5 (some .int), Cond.methodLink RX1 148 yX1_umbrellasRunningOnto, Cond.instanceMethod yX1_umbrellasRunningOnto, Cond.selects RX1 yX1_umbrellasRunningOnto yX1_umbrellasRunningOnto, Cond.code yX1_umbrellasRunningOnto cX1_umbrellasRunningOnto 4 (some .int), Cond.fieldLink RX1 39 "UmbrellaQueue$State" "size" "I", Cond.fieldLink RX1 24 "UmbrellaQueue$State" "widths" "[I", Cond.methodLink RX1 136 yX1_leastReached, Cond.instanceMethod yX1_leastReached, Cond.selects RX1 yX1_leastReached yX1_leastReached, Cond.code yX1_leastReached cX1_leastReached 2 (some .int), Cond.methodLink RX1 112 Lib.Math.max.name, Cond.static Lib.Math.max.name, Cond.code Lib.Math.max.name Lib.Math.max.code 2 (some .int), Cond.methodLink RX1 139 yX1_greatestReached]
def wsX1_wetnessAfter_r2 : List Cond := [Cond.instanceMethod yX1_greatestReached, Cond.selects RX1 yX1_greatestReached yX1_greatestReached, Cond.code yX1_greatestReached cX1_greatestReached 2 (some .int), Cond.methodLink RX1 151 yX1_isCovered, Cond.instanceMethod yX1_isCovered, Cond.selects RX1 yX1_isCovered yX1_isCovered, Cond.code yX1_isCovered cX1_isCovered 6 (some .boolean)]
def wsX1_wetnessAfter : List Cond := .code yX1_wetnessAfter cX1_wetnessAfter 4 (some .int) :: ((wsX1_wetnessAfter_r1 ++ wsX1_wetnessAfter_r2) ++ wsX10)
def wsX1_removeSoaked : List Cond := .code yX1_removeSoaked cX1_removeSoaked 3 (some .int) :: ([.fieldLink RX1 39 "UmbrellaQueue$State" "size" "I", .fieldLink RX1 15 "UmbrellaQueue$State" "wetness" "[I", .fieldLink RX1 18 "UmbrellaQueue$State" "patience" "[I", .fieldLink RX1 49 "UmbrellaQueue$State" "soaked" "I", .methodLink RX1 78 yX1_remove, .instanceMethod yX1_remove, .selects RX1 yX1_remove yX1_remove, .initialized RX1, .code yX1_remove cX1_remove 2 none, .fieldLink RX1 9 "UmbrellaQueue$State" "numbers" "[I", .fieldLink RX1 21 "UmbrellaQueue$State" "coins" "[I", .fieldLink RX1 24 "UmbrellaQueue$State" "widths" "[I", .fieldLink RX1 27 "UmbrellaQueue$State" "swapped" "[I", .methodLink RX1 130 yX1_closeGap, .static yX1_closeGap, .code yX1_closeGap cX1_closeGap 2 none, .methodLink RX1 33 arraycopyName, .native arraycopyName, .static arraycopyName, .initialized "java/lang/System"] ++ wsX10)
def wsX1_rain_r1 : List Cond := [Cond.fieldLink RX1 39 "UmbrellaQueue$State" "size" "I", Cond.fieldLink RX1 15 "UmbrellaQueue$State" "wetness" "[I", Cond.fieldLink RX1 64 "UmbrellaQueue$State" "gusts" "I", Cond.static yX3_isGust, Cond.initialized RX3, Cond.code yX3_isGust cX3_isGust 2 (some .boolean), Cond.methodLink RX3 157 yX3_isWithin, Cond.static yX3_isWithin, Cond.code yX3_isWithin cX3_isWithin 3 (some .boolean), Cond.methodLink RX1 103 yX1_wetnessAfter, Cond.instanceMethod yX1_wetnessAfter, Cond.selects RX1 yX1_wetnessAfter yX1_wetnessAfter, Cond.initialized RX1, Cond.code yX1_wetnessAfter cX1_wetnessAfter 4 (some .int), Cond.methodLink RX1 133 Lib.Math.min.name, Cond.static Lib.Math.min.name, Cond.initialized "java/lang/Math", Cond.code Lib.Math.min.name Lib.Math.min.code 2 (some .int), Cond.methodLink RX1 145 yX1_wetterBy, Cond.instanceMethod yX1_wetterBy, Cond.selects RX1 yX1_wetterBy yX1_wetterBy, Cond.code yX1_wetterBy cX1_wetterBy 5 (some .int), Cond.methodLink RX1 148 yX1_umbrellasRunningOnto, Cond.instanceMethod yX1_umbrellasRunningOnto]
def wsX1_rain_r2 : List Cond := [Cond.selects RX1 yX1_umbrellasRunningOnto yX1_umbrellasRunningOnto, Cond.code yX1_umbrellasRunningOnto cX1_umbrellasRunningOnto 4 (some .int), Cond.fieldLink RX1 24 "UmbrellaQueue$State" "widths" "[I", Cond.methodLink RX1 136 yX1_leastReached, Cond.instanceMethod yX1_leastReached, Cond.selects RX1 yX1_leastReached yX1_leastReached, Cond.code yX1_leastReached cX1_leastReached 2 (some .int), Cond.methodLink RX1 112 Lib.Math.max.name, Cond.static Lib.Math.max.name, Cond.code Lib.Math.max.name Lib.Math.max.code 2 (some .int), Cond.methodLink RX1 139 yX1_greatestReached, Cond.instanceMethod yX1_greatestReached, Cond.selects RX1 yX1_greatestReached yX1_greatestReached, Cond.code yX1_greatestReached cX1_greatestReached 2 (some .int), Cond.methodLink RX1 151 yX1_isCovered, Cond.instanceMethod yX1_isCovered, Cond.selects RX1 yX1_isCovered yX1_isCovered, Cond.code yX1_isCovered cX1_isCovered 6 (some .boolean), Cond.methodLink RX1 107 yX1_removeSoaked, Cond.instanceMethod yX1_removeSoaked, Cond.selects RX1 yX1_removeSoaked yX1_removeSoaked, Cond.code yX1_removeSoaked cX1_removeSoaked 3 (some .int), Cond.fieldLink RX1 18 "UmbrellaQueue$State" "patience" "[I", Cond.fieldLink RX1 49 "UmbrellaQueue$State" "soaked" "I"]
def wsX1_rain_r3 : List Cond := [Cond.methodLink RX1 78 yX1_remove, Cond.instanceMethod yX1_remove, Cond.selects RX1 yX1_remove yX1_remove, Cond.code yX1_remove cX1_remove 2 none, Cond.fieldLink RX1 9 "UmbrellaQueue$State" "numbers" "[I", Cond.fieldLink RX1 21 "UmbrellaQueue$State" "coins" "[I", Cond.fieldLink RX1 27 "UmbrellaQueue$State" "swapped" "[I", Cond.methodLink RX1 130 yX1_closeGap, Cond.static yX1_closeGap, Cond.code yX1_closeGap cX1_closeGap 2 none, Cond.methodLink RX1 33 arraycopyName, Cond.native arraycopyName, Cond.static arraycopyName, Cond.initialized "java/lang/System"]
def wsX1_rain : List Cond := .code yX1_rain cX1_rain 4 (some .int) :: ((wsX1_rain_r1 ++ (wsX1_rain_r2 ++ wsX1_rain_r3)) ++ wsX10)
def wsX1_dry : List Cond := .code yX1_dry cX1_dry 4 (some .int) :: ([.fieldLink RX1 67 "UmbrellaQueue$State" "minutes" "I", .constant RX1 111 (99999), .fieldLink RX1 39 "UmbrellaQueue$State" "size" "I", .fieldLink RX1 15 "UmbrellaQueue$State" "wetness" "[I", .fieldLink RX1 30 "UmbrellaQueue$State" "settings" "[I", .methodLink RX1 112 Lib.Math.max.name, .static Lib.Math.max.name, .initialized "java/lang/Math", .code Lib.Math.max.name Lib.Math.max.code 2 (some .int), .static yX3_isWithin, .initialized RX3, .code yX3_isWithin cX3_isWithin 3 (some .boolean)] ++ wsX10)
def wsX1_peopleToServe : List Cond := .code yX1_peopleToServe cX1_peopleToServe 1 (some .int) :: ([.fieldLink RX1 39 "UmbrellaQueue$State" "size" "I", .fieldLink RX1 30 "UmbrellaQueue$State" "settings" "[I", .methodLink RX1 133 Lib.Math.min.name, .static Lib.Math.min.name, .initialized "java/lang/Math", .code Lib.Math.min.name Lib.Math.min.code 2 (some .int)] ++ wsX10)
def wsX1_driestToServe : List Cond := .code yX1_driestToServe cX1_driestToServe 4 (some .int) :: ([.fieldLink RX1 15 "UmbrellaQueue$State" "wetness" "[I", .methodLink RX1 118 yX1_peopleToServe, .instanceMethod yX1_peopleToServe, .selects RX1 yX1_peopleToServe yX1_peopleToServe, .initialized RX1, .code yX1_peopleToServe cX1_peopleToServe 1 (some .int), .fieldLink RX1 39 "UmbrellaQueue$State" "size" "I", .fieldLink RX1 30 "UmbrellaQueue$State" "settings" "[I", .methodLink RX1 133 Lib.Math.min.name, .static Lib.Math.min.name, .initialized "java/lang/Math", .code Lib.Math.min.name Lib.Math.min.code 2 (some .int)] ++ wsX10)
def wsX1_fareForAll : List Cond := .code yX1_fareForAll cX1_fareForAll 1 (some .int) :: ([.fieldLink RX1 30 "UmbrellaQueue$State" "settings" "[I", .methodLink RX1 118 yX1_peopleToServe, .instanceMethod yX1_peopleToServe, .selects RX1 yX1_peopleToServe yX1_peopleToServe, .initialized RX1, .code yX1_peopleToServe cX1_peopleToServe 1 (some .int), .fieldLink RX1 39 "UmbrellaQueue$State" "size" "I", .methodLink RX1 133 Lib.Math.min.name, .static Lib.Math.min.name, .initialized "java/lang/Math", .code Lib.Math.min.name Lib.Math.min.code 2 (some .int)] ++ wsX10)
def wsX1_paidFrom : List Cond := .code yX1_paidFrom cX1_paidFrom 2 (some .int) :: ([.fieldLink RX1 21 "UmbrellaQueue$State" "coins" "[I", .methodLink RX1 133 Lib.Math.min.name, .static Lib.Math.min.name, .initialized "java/lang/Math", .code Lib.Math.min.name Lib.Math.min.code 2 (some .int), .methodLink RX1 127 yX1_fareForAll, .instanceMethod yX1_fareForAll, .selects RX1 yX1_fareForAll yX1_fareForAll, .initialized RX1, .code yX1_fareForAll cX1_fareForAll 1 (some .int), .fieldLink RX1 30 "UmbrellaQueue$State" "settings" "[I", .methodLink RX1 118 yX1_peopleToServe, .instanceMethod yX1_peopleToServe, .selects RX1 yX1_peopleToServe yX1_peopleToServe, .code yX1_peopleToServe cX1_peopleToServe 1 (some .int), .fieldLink RX1 39 "UmbrellaQueue$State" "size" "I"] ++ wsX10)
def wsX1_serveFirst_r1 : List Cond := [Cond.fieldLink RX1 39 "UmbrellaQueue$State" "size" "I", Cond.fieldLink RX1 55 "UmbrellaQueue$State" "paid" "I", Cond.fieldLink RX1 58 "UmbrellaQueue$State" "unpaid" "I", Cond.fieldLink RX1 52 "UmbrellaQueue$State" "served" "I", Cond.methodLink RX1 118 yX1_peopleToServe, Cond.instanceMethod yX1_peopleToServe, Cond.selects RX1 yX1_peopleToServe yX1_peopleToServe, Cond.initialized RX1, Cond.code yX1_peopleToServe cX1_peopleToServe 1 (some .int), Cond.fieldLink RX1 30 "UmbrellaQueue$State" "settings" "[I", Cond.methodLink RX1 133 Lib.Math.min.name, Cond.static Lib.Math.min.name, Cond.initialized "java/lang/Math", Cond.code Lib.Math.min.name Lib.Math.min.code 2 (some .int), Cond.methodLink RX1 121 yX1_driestToServe, Cond.instanceMethod yX1_driestToServe, Cond.selects RX1 yX1_driestToServe yX1_driestToServe, Cond.code yX1_driestToServe cX1_driestToServe 4 (some .int), Cond.fieldLink RX1 15 "UmbrellaQueue$State" "wetness" "[I", Cond.methodLink RX1 124 yX1_paidFrom, Cond.instanceMethod yX1_paidFrom, Cond.selects RX1 yX1_paidFrom yX1_paidFrom, Cond.code yX1_paidFrom cX1_paidFrom 2 (some .int), Cond.fieldLink RX1 21 "UmbrellaQueue$State" "coins" "[I"]
def wsX1_serveFirst_r2 : List Cond := [Cond.methodLink RX1 127 yX1_fareForAll, Cond.instanceMethod yX1_fareForAll, Cond.selects RX1 yX1_fareForAll yX1_fareForAll, Cond.code yX1_fareForAll cX1_fareForAll 1 (some .int), Cond.methodLink RX1 78 yX1_remove, Cond.instanceMethod yX1_remove, Cond.selects RX1 yX1_remove yX1_remove, Cond.code yX1_remove cX1_remove 2 none, Cond.fieldLink RX1 9 "UmbrellaQueue$State" "numbers" "[I", Cond.fieldLink RX1 18 "UmbrellaQueue$State" "patience" "[I", Cond.fieldLink RX1 24 "UmbrellaQueue$State" "widths" "[I", Cond.fieldLink RX1 27 "UmbrellaQueue$State" "swapped" "[I", Cond.methodLink RX1 130 yX1_closeGap, Cond.static yX1_closeGap, Cond.code yX1_closeGap cX1_closeGap 2 none, Cond.methodLink RX1 33 arraycopyName, Cond.native arraycopyName, Cond.static arraycopyName, Cond.initialized "java/lang/System"]
def wsX1_serveFirst : List Cond := .code yX1_serveFirst cX1_serveFirst 4 (some .int) :: ((wsX1_serveFirst_r1 ++ wsX1_serveFirst_r2) ++ wsX10)
def wsX1_umbrellasOver : List Cond := .code yX1_umbrellasOver cX1_umbrellasOver 4 (some .int) :: ([.fieldLink RX1 39 "UmbrellaQueue$State" "size" "I", .fieldLink RX1 24 "UmbrellaQueue$State" "widths" "[I", .methodLink RX1 136 yX1_leastReached, .instanceMethod yX1_leastReached, .selects RX1 yX1_leastReached yX1_leastReached, .initialized RX1, .code yX1_leastReached cX1_leastReached 2 (some .int), .methodLink RX1 112 Lib.Math.max.name, .static Lib.Math.max.name, .initialized "java/lang/Math", .code Lib.Math.max.name Lib.Math.max.code 2 (some .int), .methodLink RX1 139 yX1_greatestReached, .instanceMethod yX1_greatestReached, .selects RX1 yX1_greatestReached yX1_greatestReached, .code yX1_greatestReached cX1_greatestReached 2 (some .int), .methodLink RX1 133 Lib.Math.min.name, .static Lib.Math.min.name, .code Lib.Math.min.name Lib.Math.min.code 2 (some .int), .static yX3_isWithin, .initialized RX3, .code yX3_isWithin cX3_isWithin 3 (some .boolean)] ++ wsX10)
def wsX1_placesUnreached_r1 : List Cond := [Cond.fieldLink RX1 39 "UmbrellaQueue$State" "size" "I", Cond.methodLink RX1 142 yX1_umbrellasOver, Cond.instanceMethod yX1_umbrellasOver, Cond.selects RX1 yX1_umbrellasOver yX1_umbrellasOver, Cond.initialized RX1, Cond.code yX1_umbrellasOver cX1_umbrellasOver 4 (some .int), Cond.fieldLink RX1 24 "UmbrellaQueue$State" "widths" "[I", Cond.methodLink RX1 136 yX1_leastReached, Cond.instanceMethod yX1_leastReached, Cond.selects RX1 yX1_leastReached yX1_leastReached, Cond.code yX1_leastReached cX1_leastReached 2 (some .int), Cond.methodLink RX1 112 Lib.Math.max.name, Cond.static Lib.Math.max.name, Cond.initialized "java/lang/Math", Cond.code Lib.Math.max.name Lib.Math.max.code 2 (some .int), Cond.methodLink RX1 139 yX1_greatestReached, Cond.instanceMethod yX1_greatestReached, Cond.selects RX1 yX1_greatestReached yX1_greatestReached, Cond.code yX1_greatestReached cX1_greatestReached 2 (some .int), Cond.methodLink RX1 133 Lib.Math.min.name, Cond.static Lib.Math.min.name, Cond.code Lib.Math.min.name Lib.Math.min.code 2 (some .int), Cond.static yX3_isWithin, Cond.initialized RX3]
def wsX1_placesUnreached_r2 : List Cond := [Cond.code yX3_isWithin cX3_isWithin 3 (some .boolean)]
def wsX1_placesUnreached : List Cond := .code yX1_placesUnreached cX1_placesUnreached 3 (some .int) :: ((wsX1_placesUnreached_r1 ++ wsX1_placesUnreached_r2) ++ wsX10)
def wsX1_gustsBorne_r1 : List Cond := [Cond.fieldLink RX1 18 "UmbrellaQueue$State" "patience" "[I", Cond.fieldLink RX1 15 "UmbrellaQueue$State" "wetness" "[I", Cond.methodLink RX1 145 yX1_wetterBy, Cond.instanceMethod yX1_wetterBy, Cond.selects RX1 yX1_wetterBy yX1_wetterBy, Cond.initialized RX1, Cond.code yX1_wetterBy cX1_wetterBy 5 (some .int), Cond.methodLink RX1 148 yX1_umbrellasRunningOnto, Cond.instanceMethod yX1_umbrellasRunningOnto, Cond.selects RX1 yX1_umbrellasRunningOnto yX1_umbrellasRunningOnto, Cond.code yX1_umbrellasRunningOnto cX1_umbrellasRunningOnto 4 (some .int), Cond.fieldLink RX1 39 "UmbrellaQueue$State" "size" "I", Cond.fieldLink RX1 24 "UmbrellaQueue$State" "widths" "[I", Cond.methodLink RX1 136 yX1_leastReached, Cond.instanceMethod yX1_leastReached, Cond.selects RX1 yX1_leastReached yX1_leastReached, Cond.code yX1_leastReached cX1_leastReached 2 (some .int), Cond.methodLink RX1 112 Lib.Math.max.name, Cond.static Lib.Math.max.name, Cond.initialized "java/lang/Math", Cond.code Lib.Math.max.name Lib.Math.max.code 2 (some .int), Cond.methodLink RX1 139 yX1_greatestReached, Cond.instanceMethod yX1_greatestReached, Cond.selects RX1 yX1_greatestReached yX1_greatestReached]
def wsX1_gustsBorne_r2 : List Cond := [Cond.code yX1_greatestReached cX1_greatestReached 2 (some .int), Cond.methodLink RX1 133 Lib.Math.min.name, Cond.static Lib.Math.min.name, Cond.code Lib.Math.min.name Lib.Math.min.code 2 (some .int), Cond.methodLink RX1 151 yX1_isCovered, Cond.instanceMethod yX1_isCovered, Cond.selects RX1 yX1_isCovered yX1_isCovered, Cond.code yX1_isCovered cX1_isCovered 6 (some .boolean)]
def wsX1_gustsBorne : List Cond := .code yX1_gustsBorne cX1_gustsBorne 4 (some .int) :: ((wsX1_gustsBorne_r1 ++ wsX1_gustsBorne_r2) ++ wsX10)
def wsX1_totalWetnessAfter_r1 : List Cond := [Cond.fieldLink RX1 39 "UmbrellaQueue$State" "size" "I", Cond.methodLink RX1 103 yX1_wetnessAfter, Cond.instanceMethod yX1_wetnessAfter, Cond.selects RX1 yX1_wetnessAfter yX1_wetnessAfter, Cond.initialized RX1, Cond.code yX1_wetnessAfter cX1_wetnessAfter 4 (some .int), Cond.fieldLink RX1 15 "UmbrellaQueue$State" "wetness" "[I", Cond.methodLink RX1 133 Lib.Math.min.name, Cond.static Lib.Math.min.name, Cond.initialized "java/lang/Math", Cond.code Lib.Math.min.name Lib.Math.min.code 2 (some .int), Cond.methodLink RX1 145 yX1_wetterBy, Cond.instanceMethod yX1_wetterBy, Cond.selects RX1 yX1_wetterBy yX1_wetterBy, Cond.code yX1_wetterBy cX1_wetterBy 5 (some .int), Cond.methodLink RX1 148 yX1_umbrellasRunningOnto, Cond.instanceMethod yX1_umbrellasRunningOnto, Cond.selects RX1 yX1_umbrellasRunningOnto yX1_umbrellasRunningOnto, Cond.code yX1_umbrellasRunningOnto cX1_umbrellasRunningOnto 4 (some .int), Cond.fieldLink RX1 24 "UmbrellaQueue$State" "widths" "[I", Cond.methodLink RX1 136 yX1_leastReached, Cond.instanceMethod yX1_leastReached, Cond.selects RX1 yX1_leastReached yX1_leastReached, Cond.code yX1_leastReached cX1_leastReached 2 (some .int)]
def wsX1_totalWetnessAfter_r2 : List Cond := [Cond.methodLink RX1 112 Lib.Math.max.name, Cond.static Lib.Math.max.name, Cond.code Lib.Math.max.name Lib.Math.max.code 2 (some .int), Cond.methodLink RX1 139 yX1_greatestReached, Cond.instanceMethod yX1_greatestReached, Cond.selects RX1 yX1_greatestReached yX1_greatestReached, Cond.code yX1_greatestReached cX1_greatestReached 2 (some .int), Cond.methodLink RX1 151 yX1_isCovered, Cond.instanceMethod yX1_isCovered, Cond.selects RX1 yX1_isCovered yX1_isCovered, Cond.code yX1_isCovered cX1_isCovered 6 (some .boolean)]
def wsX1_totalWetnessAfter : List Cond := .code yX1_totalWetnessAfter cX1_totalWetnessAfter 5 (some .int) :: ((wsX1_totalWetnessAfter_r1 ++ wsX1_totalWetnessAfter_r2) ++ wsX10)
def wsX1_driestSwap_r1 : List Cond := [Cond.fieldLink RX1 39 "UmbrellaQueue$State" "size" "I", Cond.fieldLink RX1 24 "UmbrellaQueue$State" "widths" "[I", Cond.methodLink RX1 154 yX1_totalWetnessAfter, Cond.instanceMethod yX1_totalWetnessAfter, Cond.selects RX1 yX1_totalWetnessAfter yX1_totalWetnessAfter, Cond.initialized RX1, Cond.code yX1_totalWetnessAfter cX1_totalWetnessAfter 5 (some .int), Cond.methodLink RX1 103 yX1_wetnessAfter, Cond.instanceMethod yX1_wetnessAfter, Cond.selects RX1 yX1_wetnessAfter yX1_wetnessAfter, Cond.code yX1_wetnessAfter cX1_wetnessAfter 4 (some .int), Cond.fieldLink RX1 15 "UmbrellaQueue$State" "wetness" "[I", Cond.methodLink RX1 133 Lib.Math.min.name, Cond.static Lib.Math.min.name, Cond.initialized "java/lang/Math", Cond.code Lib.Math.min.name Lib.Math.min.code 2 (some .int), Cond.methodLink RX1 145 yX1_wetterBy, Cond.instanceMethod yX1_wetterBy, Cond.selects RX1 yX1_wetterBy yX1_wetterBy, Cond.code yX1_wetterBy cX1_wetterBy 5 (some .int), Cond.methodLink RX1 148 yX1_umbrellasRunningOnto, Cond.instanceMethod yX1_umbrellasRunningOnto, Cond.selects RX1 yX1_umbrellasRunningOnto yX1_umbrellasRunningOnto, Cond.code yX1_umbrellasRunningOnto cX1_umbrellasRunningOnto 4 (some .int)]
def wsX1_driestSwap_r2 : List Cond := [Cond.methodLink RX1 136 yX1_leastReached, Cond.instanceMethod yX1_leastReached, Cond.selects RX1 yX1_leastReached yX1_leastReached, Cond.code yX1_leastReached cX1_leastReached 2 (some .int), Cond.methodLink RX1 112 Lib.Math.max.name, Cond.static Lib.Math.max.name, Cond.code Lib.Math.max.name Lib.Math.max.code 2 (some .int), Cond.methodLink RX1 139 yX1_greatestReached, Cond.instanceMethod yX1_greatestReached, Cond.selects RX1 yX1_greatestReached yX1_greatestReached, Cond.code yX1_greatestReached cX1_greatestReached 2 (some .int), Cond.methodLink RX1 151 yX1_isCovered, Cond.instanceMethod yX1_isCovered, Cond.selects RX1 yX1_isCovered yX1_isCovered, Cond.code yX1_isCovered cX1_isCovered 6 (some .boolean), Cond.methodLink RX1 89 yX1_refusal, Cond.instanceMethod yX1_refusal, Cond.selects RX1 yX1_refusal yX1_refusal, Cond.code yX1_refusal cX1_refusal 7 (some .int), Cond.methodLink RX1 85 yX1_exchange, Cond.static yX1_exchange, Cond.code yX1_exchange cX1_exchange 3 none]
def wsX1_driestSwap : List Cond := .code yX1_driestSwap cX1_driestSwap 7 (some .int) :: ((wsX1_driestSwap_r1 ++ wsX1_driestSwap_r2) ++ wsX10)
def wsX1_totalWetness : List Cond := .code yX1_totalWetness cX1_totalWetness 3 (some .int) :: ([.fieldLink RX1 39 "UmbrellaQueue$State" "size" "I", .fieldLink RX1 15 "UmbrellaQueue$State" "wetness" "[I"] ++ wsX10)
def wsX1_wettest : List Cond := .code yX1_wettest cX1_wettest 4 (some .int) :: ([.fieldLink RX1 39 "UmbrellaQueue$State" "size" "I", .fieldLink RX1 15 "UmbrellaQueue$State" "wetness" "[I"] ++ wsX10)
def wsX2_init : List Cond := .code yX2_init cX2_init 1 none :: ([.methodLink RX2 3 objectInit, .instanceMethod objectInit, .code objectInit ⟨#[0xb1]⟩ 1 none, .arrayClass .char, .fieldLink RX2 11 "UmbrellaQueue$Weather" "text" "[C", .fieldLink RX2 15 "UmbrellaQueue$Weather" "kinds" "[C", .arrayClass .int, .fieldLink RX2 18 "UmbrellaQueue$Weather" "amounts" "[I", .fieldLink RX2 22 "UmbrellaQueue$Weather" "sides" "[I"] ++ wsX20)
def wsX3_init_r1 : List Cond := [Cond.methodLink RX3 1 objectInit, Cond.instanceMethod objectInit, Cond.code objectInit ⟨#[0xb1]⟩ 1 none, Cond.classLink RX3 7 RX1, Cond.instantiable RX1 17, Cond.initialized RX1, Cond.fieldLink RX3 10 "UmbrellaQueue" "now" "LUmbrellaQueue$State;", Cond.fieldLink RX3 16 "UmbrellaQueue" "snapshot" "LUmbrellaQueue$State;", Cond.classLink RX3 19 RX0, Cond.instantiable RX0 2, Cond.initialized RX0, Cond.fieldLink RX3 22 "UmbrellaQueue" "history" "LUmbrellaQueue$History;", Cond.classLink RX3 26 RX2, Cond.instantiable RX2 7, Cond.initialized RX2, Cond.fieldLink RX3 29 "UmbrellaQueue" "weather" "LUmbrellaQueue$Weather;", Cond.fieldLink RX3 33 "UmbrellaQueue" "stopNumber" "I", Cond.fieldLink RX3 37 "UmbrellaQueue" "stopError" "I", Cond.instanceMethod yX1_init, Cond.code yX1_init cX1_init 1 none, Cond.methodLink RX1 3 objectInit, Cond.arrayClass .int, Cond.fieldLink RX1 9 "UmbrellaQueue$State" "numbers" "[I", Cond.fieldLink RX1 15 "UmbrellaQueue$State" "wetness" "[I"]
def wsX3_init_r2 : List Cond := [Cond.fieldLink RX1 18 "UmbrellaQueue$State" "patience" "[I", Cond.fieldLink RX1 21 "UmbrellaQueue$State" "coins" "[I", Cond.fieldLink RX1 24 "UmbrellaQueue$State" "widths" "[I", Cond.fieldLink RX1 27 "UmbrellaQueue$State" "swapped" "[I", Cond.fieldLink RX1 30 "UmbrellaQueue$State" "settings" "[I", Cond.methodLink RX3 21 yX0_init, Cond.instanceMethod yX0_init, Cond.code yX0_init cX0_init 2 none, Cond.methodLink RX0 1 objectInit, Cond.classLink RX0 9 RX1, Cond.fieldLink RX0 11 "UmbrellaQueue$History" "states" "[LUmbrellaQueue$State;", Cond.instanceMethod yX2_init, Cond.code yX2_init cX2_init 1 none, Cond.methodLink RX2 3 objectInit, Cond.arrayClass .char, Cond.fieldLink RX2 11 "UmbrellaQueue$Weather" "text" "[C", Cond.fieldLink RX2 15 "UmbrellaQueue$Weather" "kinds" "[C", Cond.fieldLink RX2 18 "UmbrellaQueue$Weather" "amounts" "[I", Cond.fieldLink RX2 22 "UmbrellaQueue$Weather" "sides" "[I"]
def wsX3_init : List Cond := .code yX3_init cX3_init 1 none :: ((wsX3_init_r1 ++ wsX3_init_r2) ++ wsX10 ++ wsX30 ++ wsX00 ++ wsX20)
def wsX3_recorded : List Cond := .code yX3_recorded cX3_recorded 2 (some .int) :: ([.fieldLink RX3 22 "UmbrellaQueue" "history" "LUmbrellaQueue$History;", .methodLink RX3 234 yX0_keepDraft, .instanceMethod yX0_keepDraft, .selects RX0 yX0_keepDraft yX0_keepDraft, .initialized RX0, .code yX0_keepDraft cX0_keepDraft 3 none, .fieldLink RX0 16 "UmbrellaQueue$History" "depth" "I", .fieldLink RX0 11 "UmbrellaQueue$History" "states" "[LUmbrellaQueue$State;"] ++ wsX30 ++ wsX00)
def wsX3_come_r1 : List Cond := [Cond.fieldLink RX3 22 "UmbrellaQueue" "history" "LUmbrellaQueue$History;", Cond.fieldLink RX3 10 "UmbrellaQueue" "now" "LUmbrellaQueue$State;", Cond.methodLink RX3 40 yX0_draft, Cond.instanceMethod yX0_draft, Cond.selects RX0 yX0_draft yX0_draft, Cond.initialized RX0, Cond.code yX0_draft cX0_draft 2 none, Cond.methodLink RX0 20 yX0_drafted, Cond.instanceMethod yX0_drafted, Cond.selects RX0 yX0_drafted yX0_drafted, Cond.code yX0_drafted cX0_drafted 1 (some (.object "UmbrellaQueue$State")), Cond.fieldLink RX0 11 "UmbrellaQueue$History" "states" "[LUmbrellaQueue$State;", Cond.fieldLink RX0 16 "UmbrellaQueue$History" "depth" "I", Cond.methodLink RX0 24 yX1_copyFrom, Cond.instanceMethod yX1_copyFrom, Cond.selects RX1 yX1_copyFrom yX1_copyFrom, Cond.initialized RX1, Cond.code yX1_copyFrom cX1_copyFrom 2 none, Cond.fieldLink RX1 9 "UmbrellaQueue$State" "numbers" "[I", Cond.methodLink RX1 33 arraycopyName, Cond.native arraycopyName, Cond.static arraycopyName, Cond.initialized "java/lang/System", Cond.fieldLink RX1 15 "UmbrellaQueue$State" "wetness" "[I"]
def wsX3_come_r2 : List Cond := [Cond.fieldLink RX1 18 "UmbrellaQueue$State" "patience" "[I", Cond.fieldLink RX1 21 "UmbrellaQueue$State" "coins" "[I", Cond.fieldLink RX1 24 "UmbrellaQueue$State" "widths" "[I", Cond.fieldLink RX1 27 "UmbrellaQueue$State" "swapped" "[I", Cond.fieldLink RX1 30 "UmbrellaQueue$State" "settings" "[I", Cond.fieldLink RX1 39 "UmbrellaQueue$State" "size" "I", Cond.fieldLink RX1 43 "UmbrellaQueue$State" "came" "I", Cond.fieldLink RX1 46 "UmbrellaQueue$State" "left" "I", Cond.fieldLink RX1 49 "UmbrellaQueue$State" "soaked" "I", Cond.fieldLink RX1 52 "UmbrellaQueue$State" "served" "I", Cond.fieldLink RX1 55 "UmbrellaQueue$State" "paid" "I", Cond.fieldLink RX1 58 "UmbrellaQueue$State" "unpaid" "I", Cond.fieldLink RX1 61 "UmbrellaQueue$State" "swaps" "I", Cond.fieldLink RX1 64 "UmbrellaQueue$State" "gusts" "I", Cond.fieldLink RX1 67 "UmbrellaQueue$State" "minutes" "I", Cond.methodLink RX3 44 yX1_admit, Cond.instanceMethod yX1_admit, Cond.selects RX1 yX1_admit yX1_admit, Cond.code yX1_admit cX1_admit 5 (some .int), Cond.static yX3_isWithin, Cond.initialized RX3, Cond.code yX3_isWithin cX3_isWithin 3 (some .boolean), Cond.methodLink RX3 48 yX3_recorded, Cond.instanceMethod yX3_recorded]
def wsX3_come_r3 : List Cond := [Cond.selects RX3 yX3_recorded yX3_recorded, Cond.code yX3_recorded cX3_recorded 2 (some .int), Cond.methodLink RX3 234 yX0_keepDraft, Cond.instanceMethod yX0_keepDraft, Cond.selects RX0 yX0_keepDraft yX0_keepDraft, Cond.code yX0_keepDraft cX0_keepDraft 3 none]
def wsX3_come : List Cond := .code yX3_come cX3_come 4 (some .int) :: ((wsX3_come_r1 ++ (wsX3_come_r2 ++ wsX3_come_r3)) ++ wsX30 ++ wsX00 ++ wsX10)
def wsX3_leave_r1 : List Cond := [Cond.fieldLink RX3 22 "UmbrellaQueue" "history" "LUmbrellaQueue$History;", Cond.fieldLink RX3 10 "UmbrellaQueue" "now" "LUmbrellaQueue$State;", Cond.methodLink RX3 40 yX0_draft, Cond.instanceMethod yX0_draft, Cond.selects RX0 yX0_draft yX0_draft, Cond.initialized RX0, Cond.code yX0_draft cX0_draft 2 none, Cond.methodLink RX0 20 yX0_drafted, Cond.instanceMethod yX0_drafted, Cond.selects RX0 yX0_drafted yX0_drafted, Cond.code yX0_drafted cX0_drafted 1 (some (.object "UmbrellaQueue$State")), Cond.fieldLink RX0 11 "UmbrellaQueue$History" "states" "[LUmbrellaQueue$State;", Cond.fieldLink RX0 16 "UmbrellaQueue$History" "depth" "I", Cond.methodLink RX0 24 yX1_copyFrom, Cond.instanceMethod yX1_copyFrom, Cond.selects RX1 yX1_copyFrom yX1_copyFrom, Cond.initialized RX1, Cond.code yX1_copyFrom cX1_copyFrom 2 none, Cond.fieldLink RX1 9 "UmbrellaQueue$State" "numbers" "[I", Cond.methodLink RX1 33 arraycopyName, Cond.native arraycopyName, Cond.static arraycopyName, Cond.initialized "java/lang/System", Cond.fieldLink RX1 15 "UmbrellaQueue$State" "wetness" "[I"]
def wsX3_leave_r2 : List Cond := [Cond.fieldLink RX1 18 "UmbrellaQueue$State" "patience" "[I", Cond.fieldLink RX1 21 "UmbrellaQueue$State" "coins" "[I", Cond.fieldLink RX1 24 "UmbrellaQueue$State" "widths" "[I", Cond.fieldLink RX1 27 "UmbrellaQueue$State" "swapped" "[I", Cond.fieldLink RX1 30 "UmbrellaQueue$State" "settings" "[I", Cond.fieldLink RX1 39 "UmbrellaQueue$State" "size" "I", Cond.fieldLink RX1 43 "UmbrellaQueue$State" "came" "I", Cond.fieldLink RX1 46 "UmbrellaQueue$State" "left" "I", Cond.fieldLink RX1 49 "UmbrellaQueue$State" "soaked" "I", Cond.fieldLink RX1 52 "UmbrellaQueue$State" "served" "I", Cond.fieldLink RX1 55 "UmbrellaQueue$State" "paid" "I", Cond.fieldLink RX1 58 "UmbrellaQueue$State" "unpaid" "I", Cond.fieldLink RX1 61 "UmbrellaQueue$State" "swaps" "I", Cond.fieldLink RX1 64 "UmbrellaQueue$State" "gusts" "I", Cond.fieldLink RX1 67 "UmbrellaQueue$State" "minutes" "I", Cond.methodLink RX3 52 yX1_dismiss, Cond.instanceMethod yX1_dismiss, Cond.selects RX1 yX1_dismiss yX1_dismiss, Cond.code yX1_dismiss cX1_dismiss 3 (some .int), Cond.methodLink RX1 74 yX1_isPlace, Cond.instanceMethod yX1_isPlace, Cond.selects RX1 yX1_isPlace yX1_isPlace, Cond.code yX1_isPlace cX1_isPlace 2 (some .boolean), Cond.methodLink RX1 78 yX1_remove]
def wsX3_leave_r3 : List Cond := [Cond.instanceMethod yX1_remove, Cond.selects RX1 yX1_remove yX1_remove, Cond.code yX1_remove cX1_remove 2 none, Cond.methodLink RX1 130 yX1_closeGap, Cond.static yX1_closeGap, Cond.code yX1_closeGap cX1_closeGap 2 none, Cond.methodLink RX3 48 yX3_recorded, Cond.instanceMethod yX3_recorded, Cond.selects RX3 yX3_recorded yX3_recorded, Cond.initialized RX3, Cond.code yX3_recorded cX3_recorded 2 (some .int), Cond.methodLink RX3 234 yX0_keepDraft, Cond.instanceMethod yX0_keepDraft, Cond.selects RX0 yX0_keepDraft yX0_keepDraft, Cond.code yX0_keepDraft cX0_keepDraft 3 none]
def wsX3_leave : List Cond := .code yX3_leave cX3_leave 2 (some .int) :: ((wsX3_leave_r1 ++ (wsX3_leave_r2 ++ wsX3_leave_r3)) ++ wsX30 ++ wsX00 ++ wsX10)
def wsX3_letAhead_r1 : List Cond := [Cond.fieldLink RX3 22 "UmbrellaQueue" "history" "LUmbrellaQueue$History;", Cond.fieldLink RX3 10 "UmbrellaQueue" "now" "LUmbrellaQueue$State;", Cond.methodLink RX3 40 yX0_draft, Cond.instanceMethod yX0_draft, Cond.selects RX0 yX0_draft yX0_draft, Cond.initialized RX0, Cond.code yX0_draft cX0_draft 2 none, Cond.methodLink RX0 20 yX0_drafted, Cond.instanceMethod yX0_drafted, Cond.selects RX0 yX0_drafted yX0_drafted, Cond.code yX0_drafted cX0_drafted 1 (some (.object "UmbrellaQueue$State")), Cond.fieldLink RX0 11 "UmbrellaQueue$History" "states" "[LUmbrellaQueue$State;", Cond.fieldLink RX0 16 "UmbrellaQueue$History" "depth" "I", Cond.methodLink RX0 24 yX1_copyFrom, Cond.instanceMethod yX1_copyFrom, Cond.selects RX1 yX1_copyFrom yX1_copyFrom, Cond.initialized RX1, Cond.code yX1_copyFrom cX1_copyFrom 2 none, Cond.fieldLink RX1 9 "UmbrellaQueue$State" "numbers" "[I", Cond.methodLink RX1 33 arraycopyName, Cond.native arraycopyName, Cond.static arraycopyName, Cond.initialized "java/lang/System", Cond.fieldLink RX1 15 "UmbrellaQueue$State" "wetness" "[I"]
def wsX3_letAhead_r2 : List Cond := [Cond.fieldLink RX1 18 "UmbrellaQueue$State" "patience" "[I", Cond.fieldLink RX1 21 "UmbrellaQueue$State" "coins" "[I", Cond.fieldLink RX1 24 "UmbrellaQueue$State" "widths" "[I", Cond.fieldLink RX1 27 "UmbrellaQueue$State" "swapped" "[I", Cond.fieldLink RX1 30 "UmbrellaQueue$State" "settings" "[I", Cond.fieldLink RX1 39 "UmbrellaQueue$State" "size" "I", Cond.fieldLink RX1 43 "UmbrellaQueue$State" "came" "I", Cond.fieldLink RX1 46 "UmbrellaQueue$State" "left" "I", Cond.fieldLink RX1 49 "UmbrellaQueue$State" "soaked" "I", Cond.fieldLink RX1 52 "UmbrellaQueue$State" "served" "I", Cond.fieldLink RX1 55 "UmbrellaQueue$State" "paid" "I", Cond.fieldLink RX1 58 "UmbrellaQueue$State" "unpaid" "I", Cond.fieldLink RX1 61 "UmbrellaQueue$State" "swaps" "I", Cond.fieldLink RX1 64 "UmbrellaQueue$State" "gusts" "I", Cond.fieldLink RX1 67 "UmbrellaQueue$State" "minutes" "I", Cond.methodLink RX3 55 yX1_changePlaces, Cond.instanceMethod yX1_changePlaces, Cond.selects RX1 yX1_changePlaces yX1_changePlaces, Cond.code yX1_changePlaces cX1_changePlaces 2 (some .int), Cond.methodLink RX1 82 yX1_hasNeighbour, Cond.instanceMethod yX1_hasNeighbour, Cond.selects RX1 yX1_hasNeighbour yX1_hasNeighbour, Cond.code yX1_hasNeighbour cX1_hasNeighbour 2 (some .boolean), Cond.methodLink RX1 85 yX1_exchange]
def wsX3_letAhead_r3 : List Cond := [Cond.static yX1_exchange, Cond.code yX1_exchange cX1_exchange 3 none, Cond.methodLink RX3 48 yX3_recorded, Cond.instanceMethod yX3_recorded, Cond.selects RX3 yX3_recorded yX3_recorded, Cond.initialized RX3, Cond.code yX3_recorded cX3_recorded 2 (some .int), Cond.methodLink RX3 234 yX0_keepDraft, Cond.instanceMethod yX0_keepDraft, Cond.selects RX0 yX0_keepDraft yX0_keepDraft, Cond.code yX0_keepDraft cX0_keepDraft 3 none]
def wsX3_letAhead : List Cond := .code yX3_letAhead cX3_letAhead 2 (some .int) :: ((wsX3_letAhead_r1 ++ (wsX3_letAhead_r2 ++ wsX3_letAhead_r3)) ++ wsX30 ++ wsX00 ++ wsX10)
def wsX3_swap_r1 : List Cond := [Cond.fieldLink RX3 22 "UmbrellaQueue" "history" "LUmbrellaQueue$History;", Cond.fieldLink RX3 10 "UmbrellaQueue" "now" "LUmbrellaQueue$State;", Cond.methodLink RX3 40 yX0_draft, Cond.instanceMethod yX0_draft, Cond.selects RX0 yX0_draft yX0_draft, Cond.initialized RX0, Cond.code yX0_draft cX0_draft 2 none, Cond.methodLink RX0 20 yX0_drafted, Cond.instanceMethod yX0_drafted, Cond.selects RX0 yX0_drafted yX0_drafted, Cond.code yX0_drafted cX0_drafted 1 (some (.object "UmbrellaQueue$State")), Cond.fieldLink RX0 11 "UmbrellaQueue$History" "states" "[LUmbrellaQueue$State;", Cond.fieldLink RX0 16 "UmbrellaQueue$History" "depth" "I", Cond.methodLink RX0 24 yX1_copyFrom, Cond.instanceMethod yX1_copyFrom, Cond.selects RX1 yX1_copyFrom yX1_copyFrom, Cond.initialized RX1, Cond.code yX1_copyFrom cX1_copyFrom 2 none, Cond.fieldLink RX1 9 "UmbrellaQueue$State" "numbers" "[I", Cond.methodLink RX1 33 arraycopyName, Cond.native arraycopyName, Cond.static arraycopyName, Cond.initialized "java/lang/System", Cond.fieldLink RX1 15 "UmbrellaQueue$State" "wetness" "[I"]
def wsX3_swap_r2 : List Cond := [Cond.fieldLink RX1 18 "UmbrellaQueue$State" "patience" "[I", Cond.fieldLink RX1 21 "UmbrellaQueue$State" "coins" "[I", Cond.fieldLink RX1 24 "UmbrellaQueue$State" "widths" "[I", Cond.fieldLink RX1 27 "UmbrellaQueue$State" "swapped" "[I", Cond.fieldLink RX1 30 "UmbrellaQueue$State" "settings" "[I", Cond.fieldLink RX1 39 "UmbrellaQueue$State" "size" "I", Cond.fieldLink RX1 43 "UmbrellaQueue$State" "came" "I", Cond.fieldLink RX1 46 "UmbrellaQueue$State" "left" "I", Cond.fieldLink RX1 49 "UmbrellaQueue$State" "soaked" "I", Cond.fieldLink RX1 52 "UmbrellaQueue$State" "served" "I", Cond.fieldLink RX1 55 "UmbrellaQueue$State" "paid" "I", Cond.fieldLink RX1 58 "UmbrellaQueue$State" "unpaid" "I", Cond.fieldLink RX1 61 "UmbrellaQueue$State" "swaps" "I", Cond.fieldLink RX1 64 "UmbrellaQueue$State" "gusts" "I", Cond.fieldLink RX1 67 "UmbrellaQueue$State" "minutes" "I", Cond.methodLink RX3 58 yX1_swapUmbrellas, Cond.instanceMethod yX1_swapUmbrellas, Cond.selects RX1 yX1_swapUmbrellas yX1_swapUmbrellas, Cond.code yX1_swapUmbrellas cX1_swapUmbrellas 3 (some .int), Cond.methodLink RX1 82 yX1_hasNeighbour, Cond.instanceMethod yX1_hasNeighbour, Cond.selects RX1 yX1_hasNeighbour yX1_hasNeighbour, Cond.code yX1_hasNeighbour cX1_hasNeighbour 2 (some .boolean), Cond.methodLink RX1 89 yX1_refusal]
def wsX3_swap_r3 : List Cond := [Cond.instanceMethod yX1_refusal, Cond.selects RX1 yX1_refusal yX1_refusal, Cond.code yX1_refusal cX1_refusal 7 (some .int), Cond.methodLink RX1 85 yX1_exchange, Cond.static yX1_exchange, Cond.code yX1_exchange cX1_exchange 3 none, Cond.methodLink RX3 48 yX3_recorded, Cond.instanceMethod yX3_recorded, Cond.selects RX3 yX3_recorded yX3_recorded, Cond.initialized RX3, Cond.code yX3_recorded cX3_recorded 2 (some .int), Cond.methodLink RX3 234 yX0_keepDraft, Cond.instanceMethod yX0_keepDraft, Cond.selects RX0 yX0_keepDraft yX0_keepDraft, Cond.code yX0_keepDraft cX0_keepDraft 3 none]
def wsX3_swap : List Cond := .code yX3_swap cX3_swap 2 (some .int) :: ((wsX3_swap_r1 ++ (wsX3_swap_r2 ++ wsX3_swap_r3)) ++ wsX30 ++ wsX00 ++ wsX10)
def wsX3_set_r1 : List Cond := [Cond.fieldLink RX3 22 "UmbrellaQueue" "history" "LUmbrellaQueue$History;", Cond.fieldLink RX3 10 "UmbrellaQueue" "now" "LUmbrellaQueue$State;", Cond.methodLink RX3 40 yX0_draft, Cond.instanceMethod yX0_draft, Cond.selects RX0 yX0_draft yX0_draft, Cond.initialized RX0, Cond.code yX0_draft cX0_draft 2 none, Cond.methodLink RX0 20 yX0_drafted, Cond.instanceMethod yX0_drafted, Cond.selects RX0 yX0_drafted yX0_drafted, Cond.code yX0_drafted cX0_drafted 1 (some (.object "UmbrellaQueue$State")), Cond.fieldLink RX0 11 "UmbrellaQueue$History" "states" "[LUmbrellaQueue$State;", Cond.fieldLink RX0 16 "UmbrellaQueue$History" "depth" "I", Cond.methodLink RX0 24 yX1_copyFrom, Cond.instanceMethod yX1_copyFrom, Cond.selects RX1 yX1_copyFrom yX1_copyFrom, Cond.initialized RX1, Cond.code yX1_copyFrom cX1_copyFrom 2 none, Cond.fieldLink RX1 9 "UmbrellaQueue$State" "numbers" "[I", Cond.methodLink RX1 33 arraycopyName, Cond.native arraycopyName, Cond.static arraycopyName, Cond.initialized "java/lang/System", Cond.fieldLink RX1 15 "UmbrellaQueue$State" "wetness" "[I"]
def wsX3_set_r2 : List Cond := [Cond.fieldLink RX1 18 "UmbrellaQueue$State" "patience" "[I", Cond.fieldLink RX1 21 "UmbrellaQueue$State" "coins" "[I", Cond.fieldLink RX1 24 "UmbrellaQueue$State" "widths" "[I", Cond.fieldLink RX1 27 "UmbrellaQueue$State" "swapped" "[I", Cond.fieldLink RX1 30 "UmbrellaQueue$State" "settings" "[I", Cond.fieldLink RX1 39 "UmbrellaQueue$State" "size" "I", Cond.fieldLink RX1 43 "UmbrellaQueue$State" "came" "I", Cond.fieldLink RX1 46 "UmbrellaQueue$State" "left" "I", Cond.fieldLink RX1 49 "UmbrellaQueue$State" "soaked" "I", Cond.fieldLink RX1 52 "UmbrellaQueue$State" "served" "I", Cond.fieldLink RX1 55 "UmbrellaQueue$State" "paid" "I", Cond.fieldLink RX1 58 "UmbrellaQueue$State" "unpaid" "I", Cond.fieldLink RX1 61 "UmbrellaQueue$State" "swaps" "I", Cond.fieldLink RX1 64 "UmbrellaQueue$State" "gusts" "I", Cond.fieldLink RX1 67 "UmbrellaQueue$State" "minutes" "I", Cond.methodLink RX3 61 yX1_changeSetting, Cond.instanceMethod yX1_changeSetting, Cond.selects RX1 yX1_changeSetting yX1_changeSetting, Cond.code yX1_changeSetting cX1_changeSetting 4 (some .int), Cond.static yX3_isWithin, Cond.initialized RX3, Cond.code yX3_isWithin cX3_isWithin 3 (some .boolean), Cond.methodLink RX3 48 yX3_recorded, Cond.instanceMethod yX3_recorded]
def wsX3_set_r3 : List Cond := [Cond.selects RX3 yX3_recorded yX3_recorded, Cond.code yX3_recorded cX3_recorded 2 (some .int), Cond.methodLink RX3 234 yX0_keepDraft, Cond.instanceMethod yX0_keepDraft, Cond.selects RX0 yX0_keepDraft yX0_keepDraft, Cond.code yX0_keepDraft cX0_keepDraft 3 none]
def wsX3_set : List Cond := .code yX3_set cX3_set 3 (some .int) :: ((wsX3_set_r1 ++ (wsX3_set_r2 ++ wsX3_set_r3)) ++ wsX30 ++ wsX00 ++ wsX10)
def wsX3_gust_r1 : List Cond := [Cond.fieldLink RX3 22 "UmbrellaQueue" "history" "LUmbrellaQueue$History;", Cond.fieldLink RX3 10 "UmbrellaQueue" "now" "LUmbrellaQueue$State;", Cond.methodLink RX3 40 yX0_draft, Cond.instanceMethod yX0_draft, Cond.selects RX0 yX0_draft yX0_draft, Cond.initialized RX0, Cond.code yX0_draft cX0_draft 2 none, Cond.methodLink RX0 20 yX0_drafted, Cond.instanceMethod yX0_drafted, Cond.selects RX0 yX0_drafted yX0_drafted, Cond.code yX0_drafted cX0_drafted 1 (some (.object "UmbrellaQueue$State")), Cond.fieldLink RX0 11 "UmbrellaQueue$History" "states" "[LUmbrellaQueue$State;", Cond.fieldLink RX0 16 "UmbrellaQueue$History" "depth" "I", Cond.methodLink RX0 24 yX1_copyFrom, Cond.instanceMethod yX1_copyFrom, Cond.selects RX1 yX1_copyFrom yX1_copyFrom, Cond.initialized RX1, Cond.code yX1_copyFrom cX1_copyFrom 2 none, Cond.fieldLink RX1 9 "UmbrellaQueue$State" "numbers" "[I", Cond.methodLink RX1 33 arraycopyName, Cond.native arraycopyName, Cond.static arraycopyName, Cond.initialized "java/lang/System", Cond.fieldLink RX1 15 "UmbrellaQueue$State" "wetness" "[I"]
def wsX3_gust_r2 : List Cond := [Cond.fieldLink RX1 18 "UmbrellaQueue$State" "patience" "[I", Cond.fieldLink RX1 21 "UmbrellaQueue$State" "coins" "[I", Cond.fieldLink RX1 24 "UmbrellaQueue$State" "widths" "[I", Cond.fieldLink RX1 27 "UmbrellaQueue$State" "swapped" "[I", Cond.fieldLink RX1 30 "UmbrellaQueue$State" "settings" "[I", Cond.fieldLink RX1 39 "UmbrellaQueue$State" "size" "I", Cond.fieldLink RX1 43 "UmbrellaQueue$State" "came" "I", Cond.fieldLink RX1 46 "UmbrellaQueue$State" "left" "I", Cond.fieldLink RX1 49 "UmbrellaQueue$State" "soaked" "I", Cond.fieldLink RX1 52 "UmbrellaQueue$State" "served" "I", Cond.fieldLink RX1 55 "UmbrellaQueue$State" "paid" "I", Cond.fieldLink RX1 58 "UmbrellaQueue$State" "unpaid" "I", Cond.fieldLink RX1 61 "UmbrellaQueue$State" "swaps" "I", Cond.fieldLink RX1 64 "UmbrellaQueue$State" "gusts" "I", Cond.fieldLink RX1 67 "UmbrellaQueue$State" "minutes" "I", Cond.methodLink RX3 65 yX1_rain, Cond.instanceMethod yX1_rain, Cond.selects RX1 yX1_rain yX1_rain, Cond.code yX1_rain cX1_rain 4 (some .int), Cond.static yX3_isGust, Cond.initialized RX3, Cond.code yX3_isGust cX3_isGust 2 (some .boolean), Cond.methodLink RX3 157 yX3_isWithin, Cond.static yX3_isWithin]
def wsX3_gust_r3 : List Cond := [Cond.code yX3_isWithin cX3_isWithin 3 (some .boolean), Cond.methodLink RX1 103 yX1_wetnessAfter, Cond.instanceMethod yX1_wetnessAfter, Cond.selects RX1 yX1_wetnessAfter yX1_wetnessAfter, Cond.code yX1_wetnessAfter cX1_wetnessAfter 4 (some .int), Cond.methodLink RX1 133 Lib.Math.min.name, Cond.static Lib.Math.min.name, Cond.initialized "java/lang/Math", Cond.code Lib.Math.min.name Lib.Math.min.code 2 (some .int), Cond.methodLink RX1 145 yX1_wetterBy, Cond.instanceMethod yX1_wetterBy, Cond.selects RX1 yX1_wetterBy yX1_wetterBy, Cond.code yX1_wetterBy cX1_wetterBy 5 (some .int), Cond.methodLink RX1 148 yX1_umbrellasRunningOnto, Cond.instanceMethod yX1_umbrellasRunningOnto, Cond.selects RX1 yX1_umbrellasRunningOnto yX1_umbrellasRunningOnto, Cond.code yX1_umbrellasRunningOnto cX1_umbrellasRunningOnto 4 (some .int), Cond.methodLink RX1 136 yX1_leastReached, Cond.instanceMethod yX1_leastReached, Cond.selects RX1 yX1_leastReached yX1_leastReached, Cond.code yX1_leastReached cX1_leastReached 2 (some .int), Cond.methodLink RX1 112 Lib.Math.max.name, Cond.static Lib.Math.max.name, Cond.code Lib.Math.max.name Lib.Math.max.code 2 (some .int)]
def wsX3_gust_r4 : List Cond := [Cond.methodLink RX1 139 yX1_greatestReached, Cond.instanceMethod yX1_greatestReached, Cond.selects RX1 yX1_greatestReached yX1_greatestReached, Cond.code yX1_greatestReached cX1_greatestReached 2 (some .int), Cond.methodLink RX1 151 yX1_isCovered, Cond.instanceMethod yX1_isCovered, Cond.selects RX1 yX1_isCovered yX1_isCovered, Cond.code yX1_isCovered cX1_isCovered 6 (some .boolean), Cond.methodLink RX1 107 yX1_removeSoaked, Cond.instanceMethod yX1_removeSoaked, Cond.selects RX1 yX1_removeSoaked yX1_removeSoaked, Cond.code yX1_removeSoaked cX1_removeSoaked 3 (some .int), Cond.methodLink RX1 78 yX1_remove, Cond.instanceMethod yX1_remove, Cond.selects RX1 yX1_remove yX1_remove, Cond.code yX1_remove cX1_remove 2 none, Cond.methodLink RX1 130 yX1_closeGap, Cond.static yX1_closeGap, Cond.code yX1_closeGap cX1_closeGap 2 none, Cond.methodLink RX3 48 yX3_recorded, Cond.instanceMethod yX3_recorded, Cond.selects RX3 yX3_recorded yX3_recorded, Cond.code yX3_recorded cX3_recorded 2 (some .int), Cond.methodLink RX3 234 yX0_keepDraft]
def wsX3_gust_r5 : List Cond := [Cond.instanceMethod yX0_keepDraft, Cond.selects RX0 yX0_keepDraft yX0_keepDraft, Cond.code yX0_keepDraft cX0_keepDraft 3 none]
def wsX3_gust : List Cond := .code yX3_gust cX3_gust 3 (some .int) :: ((wsX3_gust_r1 ++ (wsX3_gust_r2 ++ (wsX3_gust_r3 ++ (wsX3_gust_r4 ++ wsX3_gust_r5)))) ++ wsX30 ++ wsX00 ++ wsX10)
def wsX3_pass_r1 : List Cond := [Cond.fieldLink RX3 22 "UmbrellaQueue" "history" "LUmbrellaQueue$History;", Cond.fieldLink RX3 10 "UmbrellaQueue" "now" "LUmbrellaQueue$State;", Cond.methodLink RX3 40 yX0_draft, Cond.instanceMethod yX0_draft, Cond.selects RX0 yX0_draft yX0_draft, Cond.initialized RX0, Cond.code yX0_draft cX0_draft 2 none, Cond.methodLink RX0 20 yX0_drafted, Cond.instanceMethod yX0_drafted, Cond.selects RX0 yX0_drafted yX0_drafted, Cond.code yX0_drafted cX0_drafted 1 (some (.object "UmbrellaQueue$State")), Cond.fieldLink RX0 11 "UmbrellaQueue$History" "states" "[LUmbrellaQueue$State;", Cond.fieldLink RX0 16 "UmbrellaQueue$History" "depth" "I", Cond.methodLink RX0 24 yX1_copyFrom, Cond.instanceMethod yX1_copyFrom, Cond.selects RX1 yX1_copyFrom yX1_copyFrom, Cond.initialized RX1, Cond.code yX1_copyFrom cX1_copyFrom 2 none, Cond.fieldLink RX1 9 "UmbrellaQueue$State" "numbers" "[I", Cond.methodLink RX1 33 arraycopyName, Cond.native arraycopyName, Cond.static arraycopyName, Cond.initialized "java/lang/System", Cond.fieldLink RX1 15 "UmbrellaQueue$State" "wetness" "[I"]
def wsX3_pass_r2 : List Cond := [Cond.fieldLink RX1 18 "UmbrellaQueue$State" "patience" "[I", Cond.fieldLink RX1 21 "UmbrellaQueue$State" "coins" "[I", Cond.fieldLink RX1 24 "UmbrellaQueue$State" "widths" "[I", Cond.fieldLink RX1 27 "UmbrellaQueue$State" "swapped" "[I", Cond.fieldLink RX1 30 "UmbrellaQueue$State" "settings" "[I", Cond.fieldLink RX1 39 "UmbrellaQueue$State" "size" "I", Cond.fieldLink RX1 43 "UmbrellaQueue$State" "came" "I", Cond.fieldLink RX1 46 "UmbrellaQueue$State" "left" "I", Cond.fieldLink RX1 49 "UmbrellaQueue$State" "soaked" "I", Cond.fieldLink RX1 52 "UmbrellaQueue$State" "served" "I", Cond.fieldLink RX1 55 "UmbrellaQueue$State" "paid" "I", Cond.fieldLink RX1 58 "UmbrellaQueue$State" "unpaid" "I", Cond.fieldLink RX1 61 "UmbrellaQueue$State" "swaps" "I", Cond.fieldLink RX1 64 "UmbrellaQueue$State" "gusts" "I", Cond.fieldLink RX1 67 "UmbrellaQueue$State" "minutes" "I", Cond.methodLink RX3 68 yX1_dry, Cond.instanceMethod yX1_dry, Cond.selects RX1 yX1_dry yX1_dry, Cond.code yX1_dry cX1_dry 4 (some .int), Cond.constant RX1 111 (99999), Cond.methodLink RX1 112 Lib.Math.max.name, Cond.static Lib.Math.max.name, Cond.initialized "java/lang/Math", Cond.code Lib.Math.max.name Lib.Math.max.code 2 (some .int)]
def wsX3_pass_r3 : List Cond := [Cond.static yX3_isWithin, Cond.initialized RX3, Cond.code yX3_isWithin cX3_isWithin 3 (some .boolean), Cond.methodLink RX3 48 yX3_recorded, Cond.instanceMethod yX3_recorded, Cond.selects RX3 yX3_recorded yX3_recorded, Cond.code yX3_recorded cX3_recorded 2 (some .int), Cond.methodLink RX3 234 yX0_keepDraft, Cond.instanceMethod yX0_keepDraft, Cond.selects RX0 yX0_keepDraft yX0_keepDraft, Cond.code yX0_keepDraft cX0_keepDraft 3 none]
def wsX3_pass : List Cond := .code yX3_pass cX3_pass 2 (some .int) :: ((wsX3_pass_r1 ++ (wsX3_pass_r2 ++ wsX3_pass_r3)) ++ wsX30 ++ wsX00 ++ wsX10)
def wsX3_serve_r1 : List Cond := [Cond.fieldLink RX3 22 "UmbrellaQueue" "history" "LUmbrellaQueue$History;", Cond.fieldLink RX3 10 "UmbrellaQueue" "now" "LUmbrellaQueue$State;", Cond.methodLink RX3 40 yX0_draft, Cond.instanceMethod yX0_draft, Cond.selects RX0 yX0_draft yX0_draft, Cond.initialized RX0, Cond.code yX0_draft cX0_draft 2 none, Cond.methodLink RX0 20 yX0_drafted, Cond.instanceMethod yX0_drafted, Cond.selects RX0 yX0_drafted yX0_drafted, Cond.code yX0_drafted cX0_drafted 1 (some (.object "UmbrellaQueue$State")), Cond.fieldLink RX0 11 "UmbrellaQueue$History" "states" "[LUmbrellaQueue$State;", Cond.fieldLink RX0 16 "UmbrellaQueue$History" "depth" "I", Cond.methodLink RX0 24 yX1_copyFrom, Cond.instanceMethod yX1_copyFrom, Cond.selects RX1 yX1_copyFrom yX1_copyFrom, Cond.initialized RX1, Cond.code yX1_copyFrom cX1_copyFrom 2 none, Cond.fieldLink RX1 9 "UmbrellaQueue$State" "numbers" "[I", Cond.methodLink RX1 33 arraycopyName, Cond.native arraycopyName, Cond.static arraycopyName, Cond.initialized "java/lang/System", Cond.fieldLink RX1 15 "UmbrellaQueue$State" "wetness" "[I"]
def wsX3_serve_r2 : List Cond := [Cond.fieldLink RX1 18 "UmbrellaQueue$State" "patience" "[I", Cond.fieldLink RX1 21 "UmbrellaQueue$State" "coins" "[I", Cond.fieldLink RX1 24 "UmbrellaQueue$State" "widths" "[I", Cond.fieldLink RX1 27 "UmbrellaQueue$State" "swapped" "[I", Cond.fieldLink RX1 30 "UmbrellaQueue$State" "settings" "[I", Cond.fieldLink RX1 39 "UmbrellaQueue$State" "size" "I", Cond.fieldLink RX1 43 "UmbrellaQueue$State" "came" "I", Cond.fieldLink RX1 46 "UmbrellaQueue$State" "left" "I", Cond.fieldLink RX1 49 "UmbrellaQueue$State" "soaked" "I", Cond.fieldLink RX1 52 "UmbrellaQueue$State" "served" "I", Cond.fieldLink RX1 55 "UmbrellaQueue$State" "paid" "I", Cond.fieldLink RX1 58 "UmbrellaQueue$State" "unpaid" "I", Cond.fieldLink RX1 61 "UmbrellaQueue$State" "swaps" "I", Cond.fieldLink RX1 64 "UmbrellaQueue$State" "gusts" "I", Cond.fieldLink RX1 67 "UmbrellaQueue$State" "minutes" "I", Cond.methodLink RX3 71 yX1_serveFirst, Cond.instanceMethod yX1_serveFirst, Cond.selects RX1 yX1_serveFirst yX1_serveFirst, Cond.code yX1_serveFirst cX1_serveFirst 4 (some .int), Cond.methodLink RX1 118 yX1_peopleToServe, Cond.instanceMethod yX1_peopleToServe, Cond.selects RX1 yX1_peopleToServe yX1_peopleToServe, Cond.code yX1_peopleToServe cX1_peopleToServe 1 (some .int), Cond.methodLink RX1 133 Lib.Math.min.name]
def wsX3_serve_r3 : List Cond := [Cond.static Lib.Math.min.name, Cond.initialized "java/lang/Math", Cond.code Lib.Math.min.name Lib.Math.min.code 2 (some .int), Cond.methodLink RX1 121 yX1_driestToServe, Cond.instanceMethod yX1_driestToServe, Cond.selects RX1 yX1_driestToServe yX1_driestToServe, Cond.code yX1_driestToServe cX1_driestToServe 4 (some .int), Cond.methodLink RX1 124 yX1_paidFrom, Cond.instanceMethod yX1_paidFrom, Cond.selects RX1 yX1_paidFrom yX1_paidFrom, Cond.code yX1_paidFrom cX1_paidFrom 2 (some .int), Cond.methodLink RX1 127 yX1_fareForAll, Cond.instanceMethod yX1_fareForAll, Cond.selects RX1 yX1_fareForAll yX1_fareForAll, Cond.code yX1_fareForAll cX1_fareForAll 1 (some .int), Cond.methodLink RX1 78 yX1_remove, Cond.instanceMethod yX1_remove, Cond.selects RX1 yX1_remove yX1_remove, Cond.code yX1_remove cX1_remove 2 none, Cond.methodLink RX1 130 yX1_closeGap, Cond.static yX1_closeGap, Cond.code yX1_closeGap cX1_closeGap 2 none, Cond.methodLink RX3 48 yX3_recorded, Cond.instanceMethod yX3_recorded]
def wsX3_serve_r4 : List Cond := [Cond.selects RX3 yX3_recorded yX3_recorded, Cond.initialized RX3, Cond.code yX3_recorded cX3_recorded 2 (some .int), Cond.methodLink RX3 234 yX0_keepDraft, Cond.instanceMethod yX0_keepDraft, Cond.selects RX0 yX0_keepDraft yX0_keepDraft, Cond.code yX0_keepDraft cX0_keepDraft 3 none]
def wsX3_serve : List Cond := .code yX3_serve cX3_serve 1 (some .int) :: ((wsX3_serve_r1 ++ (wsX3_serve_r2 ++ (wsX3_serve_r3 ++ wsX3_serve_r4))) ++ wsX30 ++ wsX00 ++ wsX10)
def wsX3_undo_r1 : List Cond := [Cond.fieldLink RX3 22 "UmbrellaQueue" "history" "LUmbrellaQueue$History;", Cond.fieldLink RX3 114 "UmbrellaQueue$History" "depth" "I", Cond.fieldLink RX3 10 "UmbrellaQueue" "now" "LUmbrellaQueue$State;", Cond.methodLink RX3 117 yX0_takeLatest, Cond.instanceMethod yX0_takeLatest, Cond.selects RX0 yX0_takeLatest yX0_takeLatest, Cond.initialized RX0, Cond.code yX0_takeLatest cX0_takeLatest 1 (some (.object "UmbrellaQueue$State")), Cond.fieldLink RX0 16 "UmbrellaQueue$History" "depth" "I", Cond.fieldLink RX0 11 "UmbrellaQueue$History" "states" "[LUmbrellaQueue$State;", Cond.methodLink RX3 111 yX1_copyFrom, Cond.instanceMethod yX1_copyFrom, Cond.selects RX1 yX1_copyFrom yX1_copyFrom, Cond.initialized RX1, Cond.code yX1_copyFrom cX1_copyFrom 2 none, Cond.fieldLink RX1 9 "UmbrellaQueue$State" "numbers" "[I", Cond.methodLink RX1 33 arraycopyName, Cond.native arraycopyName, Cond.static arraycopyName, Cond.initialized "java/lang/System", Cond.fieldLink RX1 15 "UmbrellaQueue$State" "wetness" "[I", Cond.fieldLink RX1 18 "UmbrellaQueue$State" "patience" "[I", Cond.fieldLink RX1 21 "UmbrellaQueue$State" "coins" "[I", Cond.fieldLink RX1 24 "UmbrellaQueue$State" "widths" "[I"]
def wsX3_undo_r2 : List Cond := [Cond.fieldLink RX1 27 "UmbrellaQueue$State" "swapped" "[I", Cond.fieldLink RX1 30 "UmbrellaQueue$State" "settings" "[I", Cond.fieldLink RX1 39 "UmbrellaQueue$State" "size" "I", Cond.fieldLink RX1 43 "UmbrellaQueue$State" "came" "I", Cond.fieldLink RX1 46 "UmbrellaQueue$State" "left" "I", Cond.fieldLink RX1 49 "UmbrellaQueue$State" "soaked" "I", Cond.fieldLink RX1 52 "UmbrellaQueue$State" "served" "I", Cond.fieldLink RX1 55 "UmbrellaQueue$State" "paid" "I", Cond.fieldLink RX1 58 "UmbrellaQueue$State" "unpaid" "I", Cond.fieldLink RX1 61 "UmbrellaQueue$State" "swaps" "I", Cond.fieldLink RX1 64 "UmbrellaQueue$State" "gusts" "I", Cond.fieldLink RX1 67 "UmbrellaQueue$State" "minutes" "I"]
def wsX3_undo : List Cond := .code yX3_undo cX3_undo 1 (some .int) :: ((wsX3_undo_r1 ++ wsX3_undo_r2) ++ wsX30 ++ wsX00 ++ wsX10)
def wsX3_restore_r1 : List Cond := [Cond.fieldLink RX3 120 "UmbrellaQueue" "hasSnapshot" "Z", Cond.fieldLink RX3 22 "UmbrellaQueue" "history" "LUmbrellaQueue$History;", Cond.fieldLink RX3 10 "UmbrellaQueue" "now" "LUmbrellaQueue$State;", Cond.fieldLink RX3 16 "UmbrellaQueue" "snapshot" "LUmbrellaQueue$State;", Cond.fieldLink RX3 124 "UmbrellaQueue$State" "size" "I", Cond.methodLink RX3 40 yX0_draft, Cond.instanceMethod yX0_draft, Cond.selects RX0 yX0_draft yX0_draft, Cond.initialized RX0, Cond.code yX0_draft cX0_draft 2 none, Cond.methodLink RX0 20 yX0_drafted, Cond.instanceMethod yX0_drafted, Cond.selects RX0 yX0_drafted yX0_drafted, Cond.code yX0_drafted cX0_drafted 1 (some (.object "UmbrellaQueue$State")), Cond.fieldLink RX0 11 "UmbrellaQueue$History" "states" "[LUmbrellaQueue$State;", Cond.fieldLink RX0 16 "UmbrellaQueue$History" "depth" "I", Cond.methodLink RX0 24 yX1_copyFrom, Cond.instanceMethod yX1_copyFrom, Cond.selects RX1 yX1_copyFrom yX1_copyFrom, Cond.initialized RX1, Cond.code yX1_copyFrom cX1_copyFrom 2 none, Cond.fieldLink RX1 9 "UmbrellaQueue$State" "numbers" "[I", Cond.methodLink RX1 33 arraycopyName, Cond.native arraycopyName]
def wsX3_restore_r2 : List Cond := [Cond.static arraycopyName, Cond.initialized "java/lang/System", Cond.fieldLink RX1 15 "UmbrellaQueue$State" "wetness" "[I", Cond.fieldLink RX1 18 "UmbrellaQueue$State" "patience" "[I", Cond.fieldLink RX1 21 "UmbrellaQueue$State" "coins" "[I", Cond.fieldLink RX1 24 "UmbrellaQueue$State" "widths" "[I", Cond.fieldLink RX1 27 "UmbrellaQueue$State" "swapped" "[I", Cond.fieldLink RX1 30 "UmbrellaQueue$State" "settings" "[I", Cond.fieldLink RX1 39 "UmbrellaQueue$State" "size" "I", Cond.fieldLink RX1 43 "UmbrellaQueue$State" "came" "I", Cond.fieldLink RX1 46 "UmbrellaQueue$State" "left" "I", Cond.fieldLink RX1 49 "UmbrellaQueue$State" "soaked" "I", Cond.fieldLink RX1 52 "UmbrellaQueue$State" "served" "I", Cond.fieldLink RX1 55 "UmbrellaQueue$State" "paid" "I", Cond.fieldLink RX1 58 "UmbrellaQueue$State" "unpaid" "I", Cond.fieldLink RX1 61 "UmbrellaQueue$State" "swaps" "I", Cond.fieldLink RX1 64 "UmbrellaQueue$State" "gusts" "I", Cond.fieldLink RX1 67 "UmbrellaQueue$State" "minutes" "I", Cond.methodLink RX3 111 yX1_copyFrom, Cond.methodLink RX3 48 yX3_recorded, Cond.instanceMethod yX3_recorded, Cond.selects RX3 yX3_recorded yX3_recorded, Cond.initialized RX3, Cond.code yX3_recorded cX3_recorded 2 (some .int)]
def wsX3_restore_r3 : List Cond := [Cond.methodLink RX3 234 yX0_keepDraft, Cond.instanceMethod yX0_keepDraft, Cond.selects RX0 yX0_keepDraft yX0_keepDraft, Cond.code yX0_keepDraft cX0_keepDraft 3 none]
def wsX3_restore : List Cond := .code yX3_restore cX3_restore 1 (some .int) :: ((wsX3_restore_r1 ++ (wsX3_restore_r2 ++ wsX3_restore_r3)) ++ wsX30 ++ wsX10 ++ wsX00)
def wsX3_person_r1 : List Cond := [Cond.fieldLink RX3 10 "UmbrellaQueue" "now" "LUmbrellaQueue$State;", Cond.fieldLink RX3 130 "UmbrellaQueue$State" "numbers" "[I", Cond.fieldLink RX3 133 "UmbrellaQueue$State" "wetness" "[I", Cond.fieldLink RX3 136 "UmbrellaQueue$State" "patience" "[I", Cond.fieldLink RX3 139 "UmbrellaQueue$State" "coins" "[I", Cond.fieldLink RX3 142 "UmbrellaQueue$State" "widths" "[I", Cond.fieldLink RX3 154 "UmbrellaQueue$State" "swapped" "[I", Cond.methodLink RX3 127 yX1_isPlace, Cond.instanceMethod yX1_isPlace, Cond.selects RX1 yX1_isPlace yX1_isPlace, Cond.initialized RX1, Cond.code yX1_isPlace cX1_isPlace 2 (some .boolean), Cond.fieldLink RX1 39 "UmbrellaQueue$State" "size" "I", Cond.methodLink RX3 145 yX1_leastReached, Cond.instanceMethod yX1_leastReached, Cond.selects RX1 yX1_leastReached yX1_leastReached, Cond.code yX1_leastReached cX1_leastReached 2 (some .int), Cond.fieldLink RX1 24 "UmbrellaQueue$State" "widths" "[I", Cond.methodLink RX1 112 Lib.Math.max.name, Cond.static Lib.Math.max.name, Cond.initialized "java/lang/Math", Cond.code Lib.Math.max.name Lib.Math.max.code 2 (some .int), Cond.methodLink RX3 148 yX1_greatestReached, Cond.instanceMethod yX1_greatestReached]
def wsX3_person_r2 : List Cond := [Cond.selects RX1 yX1_greatestReached yX1_greatestReached, Cond.code yX1_greatestReached cX1_greatestReached 2 (some .int), Cond.methodLink RX1 133 Lib.Math.min.name, Cond.static Lib.Math.min.name, Cond.code Lib.Math.min.name Lib.Math.min.code 2 (some .int), Cond.methodLink RX3 151 yX1_umbrellasOver, Cond.instanceMethod yX1_umbrellasOver, Cond.selects RX1 yX1_umbrellasOver yX1_umbrellasOver, Cond.code yX1_umbrellasOver cX1_umbrellasOver 4 (some .int), Cond.methodLink RX1 136 yX1_leastReached, Cond.methodLink RX1 139 yX1_greatestReached, Cond.static yX3_isWithin, Cond.initialized RX3, Cond.code yX3_isWithin cX3_isWithin 3 (some .boolean)]
def wsX3_person : List Cond := .code yX3_person cX3_person 3 (some .int) :: ((wsX3_person_r1 ++ wsX3_person_r2) ++ wsX30 ++ wsX10)
def wsX3_placeOf : List Cond := .code yX3_placeOf cX3_placeOf 3 (some .int) :: ([.fieldLink RX3 10 "UmbrellaQueue" "now" "LUmbrellaQueue$State;", .fieldLink RX3 124 "UmbrellaQueue$State" "size" "I", .fieldLink RX3 130 "UmbrellaQueue$State" "numbers" "[I", .methodLink RX3 157 yX3_isWithin, .static yX3_isWithin, .initialized RX3, .code yX3_isWithin cX3_isWithin 3 (some .boolean)] ++ wsX30 ++ wsX10)
def wsX3_ifGust_r1 : List Cond := [Cond.fieldLink RX3 10 "UmbrellaQueue" "now" "LUmbrellaQueue$State;", Cond.fieldLink RX3 136 "UmbrellaQueue$State" "patience" "[I", Cond.methodLink RX3 127 yX1_isPlace, Cond.instanceMethod yX1_isPlace, Cond.selects RX1 yX1_isPlace yX1_isPlace, Cond.initialized RX1, Cond.code yX1_isPlace cX1_isPlace 2 (some .boolean), Cond.fieldLink RX1 39 "UmbrellaQueue$State" "size" "I", Cond.methodLink RX3 161 yX3_isGust, Cond.static yX3_isGust, Cond.initialized RX3, Cond.code yX3_isGust cX3_isGust 2 (some .boolean), Cond.methodLink RX3 157 yX3_isWithin, Cond.static yX3_isWithin, Cond.code yX3_isWithin cX3_isWithin 3 (some .boolean), Cond.methodLink RX3 165 yX1_isCovered, Cond.instanceMethod yX1_isCovered, Cond.selects RX1 yX1_isCovered yX1_isCovered, Cond.code yX1_isCovered cX1_isCovered 6 (some .boolean), Cond.fieldLink RX1 24 "UmbrellaQueue$State" "widths" "[I", Cond.methodLink RX1 136 yX1_leastReached, Cond.instanceMethod yX1_leastReached, Cond.selects RX1 yX1_leastReached yX1_leastReached, Cond.code yX1_leastReached cX1_leastReached 2 (some .int)]
def wsX3_ifGust_r2 : List Cond := [Cond.methodLink RX1 112 Lib.Math.max.name, Cond.static Lib.Math.max.name, Cond.initialized "java/lang/Math", Cond.code Lib.Math.max.name Lib.Math.max.code 2 (some .int), Cond.methodLink RX1 139 yX1_greatestReached, Cond.instanceMethod yX1_greatestReached, Cond.selects RX1 yX1_greatestReached yX1_greatestReached, Cond.code yX1_greatestReached cX1_greatestReached 2 (some .int), Cond.methodLink RX1 133 Lib.Math.min.name, Cond.static Lib.Math.min.name, Cond.code Lib.Math.min.name Lib.Math.min.code 2 (some .int), Cond.methodLink RX3 168 yX1_umbrellasRunningOnto, Cond.instanceMethod yX1_umbrellasRunningOnto, Cond.selects RX1 yX1_umbrellasRunningOnto yX1_umbrellasRunningOnto, Cond.code yX1_umbrellasRunningOnto cX1_umbrellasRunningOnto 4 (some .int), Cond.methodLink RX3 171 yX1_wetnessAfter, Cond.instanceMethod yX1_wetnessAfter, Cond.selects RX1 yX1_wetnessAfter yX1_wetnessAfter, Cond.code yX1_wetnessAfter cX1_wetnessAfter 4 (some .int), Cond.fieldLink RX1 15 "UmbrellaQueue$State" "wetness" "[I", Cond.methodLink RX1 145 yX1_wetterBy, Cond.instanceMethod yX1_wetterBy, Cond.selects RX1 yX1_wetterBy yX1_wetterBy, Cond.code yX1_wetterBy cX1_wetterBy 5 (some .int)]
def wsX3_ifGust_r3 : List Cond := [Cond.methodLink RX1 148 yX1_umbrellasRunningOnto, Cond.methodLink RX1 151 yX1_isCovered]
def wsX3_ifGust : List Cond := .code yX3_ifGust cX3_ifGust 5 (some .int) :: ((wsX3_ifGust_r1 ++ (wsX3_ifGust_r2 ++ wsX3_ifGust_r3)) ++ wsX30 ++ wsX10)
def wsX3_reason : List Cond := .code yX3_reason cX3_reason 2 (some .int) :: ([.fieldLink RX3 10 "UmbrellaQueue" "now" "LUmbrellaQueue$State;", .methodLink RX3 174 yX1_hasNeighbour, .instanceMethod yX1_hasNeighbour, .selects RX1 yX1_hasNeighbour yX1_hasNeighbour, .initialized RX1, .code yX1_hasNeighbour cX1_hasNeighbour 2 (some .boolean), .fieldLink RX1 39 "UmbrellaQueue$State" "size" "I", .methodLink RX3 177 yX1_refusal, .instanceMethod yX1_refusal, .selects RX1 yX1_refusal yX1_refusal, .code yX1_refusal cX1_refusal 7 (some .int), .fieldLink RX1 24 "UmbrellaQueue$State" "widths" "[I", .fieldLink RX1 15 "UmbrellaQueue$State" "wetness" "[I"] ++ wsX30 ++ wsX10)
def wsX3_bestSwap_r1 : List Cond := [Cond.fieldLink RX3 10 "UmbrellaQueue" "now" "LUmbrellaQueue$State;", Cond.methodLink RX3 161 yX3_isGust, Cond.static yX3_isGust, Cond.initialized RX3, Cond.code yX3_isGust cX3_isGust 2 (some .boolean), Cond.methodLink RX3 157 yX3_isWithin, Cond.static yX3_isWithin, Cond.code yX3_isWithin cX3_isWithin 3 (some .boolean), Cond.methodLink RX3 180 yX1_driestSwap, Cond.instanceMethod yX1_driestSwap, Cond.selects RX1 yX1_driestSwap yX1_driestSwap, Cond.initialized RX1, Cond.code yX1_driestSwap cX1_driestSwap 7 (some .int), Cond.fieldLink RX1 39 "UmbrellaQueue$State" "size" "I", Cond.fieldLink RX1 24 "UmbrellaQueue$State" "widths" "[I", Cond.methodLink RX1 154 yX1_totalWetnessAfter, Cond.instanceMethod yX1_totalWetnessAfter, Cond.selects RX1 yX1_totalWetnessAfter yX1_totalWetnessAfter, Cond.code yX1_totalWetnessAfter cX1_totalWetnessAfter 5 (some .int), Cond.methodLink RX1 103 yX1_wetnessAfter, Cond.instanceMethod yX1_wetnessAfter, Cond.selects RX1 yX1_wetnessAfter yX1_wetnessAfter, Cond.code yX1_wetnessAfter cX1_wetnessAfter 4 (some .int), Cond.fieldLink RX1 15 "UmbrellaQueue$State" "wetness" "[I"]
def wsX3_bestSwap_r2 : List Cond := [Cond.methodLink RX1 133 Lib.Math.min.name, Cond.static Lib.Math.min.name, Cond.initialized "java/lang/Math", Cond.code Lib.Math.min.name Lib.Math.min.code 2 (some .int), Cond.methodLink RX1 145 yX1_wetterBy, Cond.instanceMethod yX1_wetterBy, Cond.selects RX1 yX1_wetterBy yX1_wetterBy, Cond.code yX1_wetterBy cX1_wetterBy 5 (some .int), Cond.methodLink RX1 148 yX1_umbrellasRunningOnto, Cond.instanceMethod yX1_umbrellasRunningOnto, Cond.selects RX1 yX1_umbrellasRunningOnto yX1_umbrellasRunningOnto, Cond.code yX1_umbrellasRunningOnto cX1_umbrellasRunningOnto 4 (some .int), Cond.methodLink RX1 136 yX1_leastReached, Cond.instanceMethod yX1_leastReached, Cond.selects RX1 yX1_leastReached yX1_leastReached, Cond.code yX1_leastReached cX1_leastReached 2 (some .int), Cond.methodLink RX1 112 Lib.Math.max.name, Cond.static Lib.Math.max.name, Cond.code Lib.Math.max.name Lib.Math.max.code 2 (some .int), Cond.methodLink RX1 139 yX1_greatestReached, Cond.instanceMethod yX1_greatestReached, Cond.selects RX1 yX1_greatestReached yX1_greatestReached, Cond.code yX1_greatestReached cX1_greatestReached 2 (some .int), Cond.methodLink RX1 151 yX1_isCovered]
def wsX3_bestSwap_r3 : List Cond := [Cond.instanceMethod yX1_isCovered, Cond.selects RX1 yX1_isCovered yX1_isCovered, Cond.code yX1_isCovered cX1_isCovered 6 (some .boolean), Cond.methodLink RX1 89 yX1_refusal, Cond.instanceMethod yX1_refusal, Cond.selects RX1 yX1_refusal yX1_refusal, Cond.code yX1_refusal cX1_refusal 7 (some .int), Cond.methodLink RX1 85 yX1_exchange, Cond.static yX1_exchange, Cond.code yX1_exchange cX1_exchange 3 none]
def wsX3_bestSwap : List Cond := .code yX3_bestSwap cX3_bestSwap 3 (some .int) :: ((wsX3_bestSwap_r1 ++ (wsX3_bestSwap_r2 ++ wsX3_bestSwap_r3)) ++ wsX30 ++ wsX10)
def wsX3_payer_r1 : List Cond := [Cond.fieldLink RX3 10 "UmbrellaQueue" "now" "LUmbrellaQueue$State;", Cond.fieldLink RX3 124 "UmbrellaQueue$State" "size" "I", Cond.methodLink RX3 157 yX3_isWithin, Cond.static yX3_isWithin, Cond.initialized RX3, Cond.code yX3_isWithin cX3_isWithin 3 (some .boolean), Cond.methodLink RX3 183 yX1_driestToServe, Cond.instanceMethod yX1_driestToServe, Cond.selects RX1 yX1_driestToServe yX1_driestToServe, Cond.initialized RX1, Cond.code yX1_driestToServe cX1_driestToServe 4 (some .int), Cond.fieldLink RX1 15 "UmbrellaQueue$State" "wetness" "[I", Cond.methodLink RX1 118 yX1_peopleToServe, Cond.instanceMethod yX1_peopleToServe, Cond.selects RX1 yX1_peopleToServe yX1_peopleToServe, Cond.code yX1_peopleToServe cX1_peopleToServe 1 (some .int), Cond.fieldLink RX1 39 "UmbrellaQueue$State" "size" "I", Cond.fieldLink RX1 30 "UmbrellaQueue$State" "settings" "[I", Cond.methodLink RX1 133 Lib.Math.min.name, Cond.static Lib.Math.min.name, Cond.initialized "java/lang/Math", Cond.code Lib.Math.min.name Lib.Math.min.code 2 (some .int), Cond.methodLink RX3 186 yX1_paidFrom, Cond.instanceMethod yX1_paidFrom]
def wsX3_payer_r2 : List Cond := [Cond.selects RX1 yX1_paidFrom yX1_paidFrom, Cond.code yX1_paidFrom cX1_paidFrom 2 (some .int), Cond.fieldLink RX1 21 "UmbrellaQueue$State" "coins" "[I", Cond.methodLink RX1 127 yX1_fareForAll, Cond.instanceMethod yX1_fareForAll, Cond.selects RX1 yX1_fareForAll yX1_fareForAll, Cond.code yX1_fareForAll cX1_fareForAll 1 (some .int)]
def wsX3_payer : List Cond := .code yX3_payer cX3_payer 3 (some .int) :: ((wsX3_payer_r1 ++ wsX3_payer_r2) ++ wsX30 ++ wsX10)
def wsX3_bears_r1 : List Cond := [Cond.fieldLink RX3 10 "UmbrellaQueue" "now" "LUmbrellaQueue$State;", Cond.methodLink RX3 127 yX1_isPlace, Cond.instanceMethod yX1_isPlace, Cond.selects RX1 yX1_isPlace yX1_isPlace, Cond.initialized RX1, Cond.code yX1_isPlace cX1_isPlace 2 (some .boolean), Cond.fieldLink RX1 39 "UmbrellaQueue$State" "size" "I", Cond.methodLink RX3 157 yX3_isWithin, Cond.static yX3_isWithin, Cond.initialized RX3, Cond.code yX3_isWithin cX3_isWithin 3 (some .boolean), Cond.methodLink RX3 189 yX1_gustsBorne, Cond.instanceMethod yX1_gustsBorne, Cond.selects RX1 yX1_gustsBorne yX1_gustsBorne, Cond.code yX1_gustsBorne cX1_gustsBorne 4 (some .int), Cond.fieldLink RX1 18 "UmbrellaQueue$State" "patience" "[I", Cond.fieldLink RX1 15 "UmbrellaQueue$State" "wetness" "[I", Cond.methodLink RX1 145 yX1_wetterBy, Cond.instanceMethod yX1_wetterBy, Cond.selects RX1 yX1_wetterBy yX1_wetterBy, Cond.code yX1_wetterBy cX1_wetterBy 5 (some .int), Cond.methodLink RX1 148 yX1_umbrellasRunningOnto, Cond.instanceMethod yX1_umbrellasRunningOnto, Cond.selects RX1 yX1_umbrellasRunningOnto yX1_umbrellasRunningOnto]
def wsX3_bears_r2 : List Cond := [Cond.code yX1_umbrellasRunningOnto cX1_umbrellasRunningOnto 4 (some .int), Cond.fieldLink RX1 24 "UmbrellaQueue$State" "widths" "[I", Cond.methodLink RX1 136 yX1_leastReached, Cond.instanceMethod yX1_leastReached, Cond.selects RX1 yX1_leastReached yX1_leastReached, Cond.code yX1_leastReached cX1_leastReached 2 (some .int), Cond.methodLink RX1 112 Lib.Math.max.name, Cond.static Lib.Math.max.name, Cond.initialized "java/lang/Math", Cond.code Lib.Math.max.name Lib.Math.max.code 2 (some .int), Cond.methodLink RX1 139 yX1_greatestReached, Cond.instanceMethod yX1_greatestReached, Cond.selects RX1 yX1_greatestReached yX1_greatestReached, Cond.code yX1_greatestReached cX1_greatestReached 2 (some .int), Cond.methodLink RX1 133 Lib.Math.min.name, Cond.static Lib.Math.min.name, Cond.code Lib.Math.min.name Lib.Math.min.code 2 (some .int), Cond.methodLink RX1 151 yX1_isCovered, Cond.instanceMethod yX1_isCovered, Cond.selects RX1 yX1_isCovered yX1_isCovered, Cond.code yX1_isCovered cX1_isCovered 6 (some .boolean)]
def wsX3_bears : List Cond := .code yX3_bears cX3_bears 3 (some .int) :: ((wsX3_bears_r1 ++ wsX3_bears_r2) ++ wsX30 ++ wsX10)
def wsX3_count_r1 : List Cond := [Cond.fieldLink RX3 10 "UmbrellaQueue" "now" "LUmbrellaQueue$State;", Cond.fieldLink RX3 124 "UmbrellaQueue$State" "size" "I", Cond.fieldLink RX3 192 "UmbrellaQueue$State" "came" "I", Cond.fieldLink RX3 195 "UmbrellaQueue$State" "left" "I", Cond.fieldLink RX3 198 "UmbrellaQueue$State" "soaked" "I", Cond.fieldLink RX3 201 "UmbrellaQueue$State" "served" "I", Cond.fieldLink RX3 204 "UmbrellaQueue$State" "paid" "I", Cond.fieldLink RX3 207 "UmbrellaQueue$State" "unpaid" "I", Cond.fieldLink RX3 210 "UmbrellaQueue$State" "swaps" "I", Cond.fieldLink RX3 213 "UmbrellaQueue$State" "gusts" "I", Cond.fieldLink RX3 216 "UmbrellaQueue$State" "minutes" "I", Cond.fieldLink RX3 228 "UmbrellaQueue$State" "settings" "[I", Cond.fieldLink RX3 22 "UmbrellaQueue" "history" "LUmbrellaQueue$History;", Cond.fieldLink RX3 114 "UmbrellaQueue$History" "depth" "I", Cond.fieldLink RX3 29 "UmbrellaQueue" "weather" "LUmbrellaQueue$Weather;", Cond.fieldLink RX3 231 "UmbrellaQueue$Weather" "length" "I", Cond.methodLink RX3 219 yX1_totalWetness, Cond.instanceMethod yX1_totalWetness, Cond.selects RX1 yX1_totalWetness yX1_totalWetness, Cond.initialized RX1, Cond.code yX1_totalWetness cX1_totalWetness 3 (some .int), Cond.fieldLink RX1 39 "UmbrellaQueue$State" "size" "I", Cond.fieldLink RX1 15 "UmbrellaQueue$State" "wetness" "[I", Cond.methodLink RX3 222 yX1_wettest]
def wsX3_count_r2 : List Cond := [Cond.instanceMethod yX1_wettest, Cond.selects RX1 yX1_wettest yX1_wettest, Cond.code yX1_wettest cX1_wettest 4 (some .int), Cond.methodLink RX3 225 yX1_placesUnreached, Cond.instanceMethod yX1_placesUnreached, Cond.selects RX1 yX1_placesUnreached yX1_placesUnreached, Cond.code yX1_placesUnreached cX1_placesUnreached 3 (some .int), Cond.methodLink RX1 142 yX1_umbrellasOver, Cond.instanceMethod yX1_umbrellasOver, Cond.selects RX1 yX1_umbrellasOver yX1_umbrellasOver, Cond.code yX1_umbrellasOver cX1_umbrellasOver 4 (some .int), Cond.fieldLink RX1 24 "UmbrellaQueue$State" "widths" "[I", Cond.methodLink RX1 136 yX1_leastReached, Cond.instanceMethod yX1_leastReached, Cond.selects RX1 yX1_leastReached yX1_leastReached, Cond.code yX1_leastReached cX1_leastReached 2 (some .int), Cond.methodLink RX1 112 Lib.Math.max.name, Cond.static Lib.Math.max.name, Cond.initialized "java/lang/Math", Cond.code Lib.Math.max.name Lib.Math.max.code 2 (some .int), Cond.methodLink RX1 139 yX1_greatestReached, Cond.instanceMethod yX1_greatestReached, Cond.selects RX1 yX1_greatestReached yX1_greatestReached, Cond.code yX1_greatestReached cX1_greatestReached 2 (some .int)]
def wsX3_count_r3 : List Cond := [Cond.methodLink RX1 133 Lib.Math.min.name, Cond.static Lib.Math.min.name, Cond.code Lib.Math.min.name Lib.Math.min.code 2 (some .int), Cond.static yX3_isWithin, Cond.initialized RX3, Cond.code yX3_isWithin cX3_isWithin 3 (some .boolean)]
def wsX3_count : List Cond := .code yX3_count cX3_count 2 (some .int) :: ((wsX3_count_r1 ++ (wsX3_count_r2 ++ wsX3_count_r3)) ++ wsX30 ++ wsX10 ++ wsX00 ++ wsX20)
def wsJ9_max_7cf53 : List Cond := .code yJ9_max_7cf53 cJ9_max_7cf53 2 (some .int) :: ([])
def wsJ9_min_7cf53 : List Cond := .code yJ9_min_7cf53 cJ9_min_7cf53 2 (some .int) :: ([])
def wsL_cell : List Cond := .code yL_cell cL_cell 2 (some .int) :: ([.constant RL 7 (40503)])
def wsL_low : List Cond := .code yL_low cL_low 2 (some .int) :: ([.constant RL 8 (2147483647)])
def wsL_gust_r1 : List Cond := [Cond.arrayClass .int, Cond.methodLink RL 9 yX3_count, Cond.instanceMethod yX3_count, Cond.selects RX3 yX3_count yX3_count, Cond.initialized RX3, Cond.code yX3_count cX3_count 2 (some .int), Cond.fieldLink RX3 10 "UmbrellaQueue" "now" "LUmbrellaQueue$State;", Cond.fieldLink RX3 124 "UmbrellaQueue$State" "size" "I", Cond.fieldLink RX3 192 "UmbrellaQueue$State" "came" "I", Cond.fieldLink RX3 195 "UmbrellaQueue$State" "left" "I", Cond.fieldLink RX3 198 "UmbrellaQueue$State" "soaked" "I", Cond.fieldLink RX3 201 "UmbrellaQueue$State" "served" "I", Cond.fieldLink RX3 204 "UmbrellaQueue$State" "paid" "I", Cond.fieldLink RX3 207 "UmbrellaQueue$State" "unpaid" "I", Cond.fieldLink RX3 210 "UmbrellaQueue$State" "swaps" "I", Cond.fieldLink RX3 213 "UmbrellaQueue$State" "gusts" "I", Cond.fieldLink RX3 216 "UmbrellaQueue$State" "minutes" "I", Cond.fieldLink RX3 228 "UmbrellaQueue$State" "settings" "[I", Cond.fieldLink RX3 22 "UmbrellaQueue" "history" "LUmbrellaQueue$History;", Cond.fieldLink RX3 114 "UmbrellaQueue$History" "depth" "I", Cond.fieldLink RX3 29 "UmbrellaQueue" "weather" "LUmbrellaQueue$Weather;", Cond.fieldLink RX3 231 "UmbrellaQueue$Weather" "length" "I", Cond.methodLink RX3 219 yX1_totalWetness, Cond.instanceMethod yX1_totalWetness]
def wsL_gust_r2 : List Cond := [Cond.selects RX1 yX1_totalWetness yX1_totalWetness, Cond.initialized RX1, Cond.code yX1_totalWetness cX1_totalWetness 3 (some .int), Cond.fieldLink RX1 39 "UmbrellaQueue$State" "size" "I", Cond.fieldLink RX1 15 "UmbrellaQueue$State" "wetness" "[I", Cond.methodLink RX3 222 yX1_wettest, Cond.instanceMethod yX1_wettest, Cond.selects RX1 yX1_wettest yX1_wettest, Cond.code yX1_wettest cX1_wettest 4 (some .int), Cond.methodLink RX3 225 yX1_placesUnreached, Cond.instanceMethod yX1_placesUnreached, Cond.selects RX1 yX1_placesUnreached yX1_placesUnreached, Cond.code yX1_placesUnreached cX1_placesUnreached 3 (some .int), Cond.methodLink RX1 142 yX1_umbrellasOver, Cond.instanceMethod yX1_umbrellasOver, Cond.selects RX1 yX1_umbrellasOver yX1_umbrellasOver, Cond.code yX1_umbrellasOver cX1_umbrellasOver 4 (some .int), Cond.fieldLink RX1 24 "UmbrellaQueue$State" "widths" "[I", Cond.methodLink RX1 136 yX1_leastReached, Cond.instanceMethod yX1_leastReached, Cond.selects RX1 yX1_leastReached yX1_leastReached, Cond.code yX1_leastReached cX1_leastReached 2 (some .int), Cond.methodLink RX1 112 Lib.Math.max.name, Cond.static Lib.Math.max.name]
def wsL_gust_r3 : List Cond := [Cond.initialized "java/lang/Math", Cond.code Lib.Math.max.name Lib.Math.max.code 2 (some .int), Cond.methodLink RX1 139 yX1_greatestReached, Cond.instanceMethod yX1_greatestReached, Cond.selects RX1 yX1_greatestReached yX1_greatestReached, Cond.code yX1_greatestReached cX1_greatestReached 2 (some .int), Cond.methodLink RX1 133 Lib.Math.min.name, Cond.static Lib.Math.min.name, Cond.code Lib.Math.min.name Lib.Math.min.code 2 (some .int), Cond.static yX3_isWithin, Cond.code yX3_isWithin cX3_isWithin 3 (some .boolean), Cond.methodLink RL 48 yX3_ifGust, Cond.instanceMethod yX3_ifGust, Cond.selects RX3 yX3_ifGust yX3_ifGust, Cond.code yX3_ifGust cX3_ifGust 5 (some .int), Cond.fieldLink RX3 136 "UmbrellaQueue$State" "patience" "[I", Cond.methodLink RX3 127 yX1_isPlace, Cond.instanceMethod yX1_isPlace, Cond.selects RX1 yX1_isPlace yX1_isPlace, Cond.code yX1_isPlace cX1_isPlace 2 (some .boolean), Cond.methodLink RX3 161 yX3_isGust, Cond.static yX3_isGust, Cond.code yX3_isGust cX3_isGust 2 (some .boolean), Cond.methodLink RX3 157 yX3_isWithin]
def wsL_gust_r4 : List Cond := [Cond.methodLink RX3 165 yX1_isCovered, Cond.instanceMethod yX1_isCovered, Cond.selects RX1 yX1_isCovered yX1_isCovered, Cond.code yX1_isCovered cX1_isCovered 6 (some .boolean), Cond.methodLink RX3 168 yX1_umbrellasRunningOnto, Cond.instanceMethod yX1_umbrellasRunningOnto, Cond.selects RX1 yX1_umbrellasRunningOnto yX1_umbrellasRunningOnto, Cond.code yX1_umbrellasRunningOnto cX1_umbrellasRunningOnto 4 (some .int), Cond.methodLink RX3 171 yX1_wetnessAfter, Cond.instanceMethod yX1_wetnessAfter, Cond.selects RX1 yX1_wetnessAfter yX1_wetnessAfter, Cond.code yX1_wetnessAfter cX1_wetnessAfter 4 (some .int), Cond.methodLink RX1 145 yX1_wetterBy, Cond.instanceMethod yX1_wetterBy, Cond.selects RX1 yX1_wetterBy yX1_wetterBy, Cond.code yX1_wetterBy cX1_wetterBy 5 (some .int), Cond.methodLink RX1 148 yX1_umbrellasRunningOnto, Cond.methodLink RX1 151 yX1_isCovered, Cond.methodLink RL 52 yX3_person, Cond.instanceMethod yX3_person, Cond.selects RX3 yX3_person yX3_person, Cond.code yX3_person cX3_person 3 (some .int), Cond.fieldLink RX3 130 "UmbrellaQueue$State" "numbers" "[I", Cond.fieldLink RX3 133 "UmbrellaQueue$State" "wetness" "[I"]
def wsL_gust_r5 : List Cond := [Cond.fieldLink RX3 139 "UmbrellaQueue$State" "coins" "[I", Cond.fieldLink RX3 142 "UmbrellaQueue$State" "widths" "[I", Cond.fieldLink RX3 154 "UmbrellaQueue$State" "swapped" "[I", Cond.methodLink RX3 145 yX1_leastReached, Cond.methodLink RX3 148 yX1_greatestReached, Cond.methodLink RX3 151 yX1_umbrellasOver, Cond.methodLink RL 55 yX3_gust, Cond.instanceMethod yX3_gust, Cond.selects RX3 yX3_gust yX3_gust, Cond.code yX3_gust cX3_gust 3 (some .int), Cond.methodLink RX3 40 yX0_draft, Cond.instanceMethod yX0_draft, Cond.selects RX0 yX0_draft yX0_draft, Cond.initialized RX0, Cond.code yX0_draft cX0_draft 2 none, Cond.methodLink RX0 20 yX0_drafted, Cond.instanceMethod yX0_drafted, Cond.selects RX0 yX0_drafted yX0_drafted, Cond.code yX0_drafted cX0_drafted 1 (some (.object "UmbrellaQueue$State")), Cond.fieldLink RX0 11 "UmbrellaQueue$History" "states" "[LUmbrellaQueue$State;", Cond.fieldLink RX0 16 "UmbrellaQueue$History" "depth" "I", Cond.methodLink RX0 24 yX1_copyFrom, Cond.instanceMethod yX1_copyFrom, Cond.selects RX1 yX1_copyFrom yX1_copyFrom]
def wsL_gust_r6 : List Cond := [Cond.code yX1_copyFrom cX1_copyFrom 2 none, Cond.fieldLink RX1 9 "UmbrellaQueue$State" "numbers" "[I", Cond.methodLink RX1 33 arraycopyName, Cond.native arraycopyName, Cond.static arraycopyName, Cond.initialized "java/lang/System", Cond.fieldLink RX1 18 "UmbrellaQueue$State" "patience" "[I", Cond.fieldLink RX1 21 "UmbrellaQueue$State" "coins" "[I", Cond.fieldLink RX1 27 "UmbrellaQueue$State" "swapped" "[I", Cond.fieldLink RX1 30 "UmbrellaQueue$State" "settings" "[I", Cond.fieldLink RX1 43 "UmbrellaQueue$State" "came" "I", Cond.fieldLink RX1 46 "UmbrellaQueue$State" "left" "I", Cond.fieldLink RX1 49 "UmbrellaQueue$State" "soaked" "I", Cond.fieldLink RX1 52 "UmbrellaQueue$State" "served" "I", Cond.fieldLink RX1 55 "UmbrellaQueue$State" "paid" "I", Cond.fieldLink RX1 58 "UmbrellaQueue$State" "unpaid" "I", Cond.fieldLink RX1 61 "UmbrellaQueue$State" "swaps" "I", Cond.fieldLink RX1 64 "UmbrellaQueue$State" "gusts" "I", Cond.fieldLink RX1 67 "UmbrellaQueue$State" "minutes" "I", Cond.methodLink RX3 65 yX1_rain, Cond.instanceMethod yX1_rain, Cond.selects RX1 yX1_rain yX1_rain, Cond.code yX1_rain cX1_rain 4 (some .int), Cond.methodLink RX1 103 yX1_wetnessAfter]
def wsL_gust_r7 : List Cond := [Cond.methodLink RX1 107 yX1_removeSoaked, Cond.instanceMethod yX1_removeSoaked, Cond.selects RX1 yX1_removeSoaked yX1_removeSoaked, Cond.code yX1_removeSoaked cX1_removeSoaked 3 (some .int), Cond.methodLink RX1 78 yX1_remove, Cond.instanceMethod yX1_remove, Cond.selects RX1 yX1_remove yX1_remove, Cond.code yX1_remove cX1_remove 2 none, Cond.methodLink RX1 130 yX1_closeGap, Cond.static yX1_closeGap, Cond.code yX1_closeGap cX1_closeGap 2 none, Cond.methodLink RX3 48 yX3_recorded, Cond.instanceMethod yX3_recorded, Cond.selects RX3 yX3_recorded yX3_recorded, Cond.code yX3_recorded cX3_recorded 2 (some .int), Cond.methodLink RX3 234 yX0_keepDraft, Cond.instanceMethod yX0_keepDraft, Cond.selects RX0 yX0_keepDraft yX0_keepDraft, Cond.code yX0_keepDraft cX0_keepDraft 3 none, Cond.methodLink RL 57 yX3_placeOf, Cond.instanceMethod yX3_placeOf, Cond.selects RX3 yX3_placeOf yX3_placeOf, Cond.code yX3_placeOf cX3_placeOf 3 (some .int)]
def wsL_gust : List Cond := .code yL_gust cL_gust 12 (some .int) :: ((wsL_gust_r1 ++ (wsL_gust_r2 ++ (wsL_gust_r3 ++ (wsL_gust_r4 ++ (wsL_gust_r5 ++ (wsL_gust_r6 ++ wsL_gust_r7)))))) ++ wsX30 ++ wsX10 ++ wsX00 ++ wsX20)
def wsL_act_r1 : List Cond := [Cond.methodLink RL 9 yX3_count, Cond.instanceMethod yX3_count, Cond.selects RX3 yX3_count yX3_count, Cond.initialized RX3, Cond.code yX3_count cX3_count 2 (some .int), Cond.fieldLink RX3 10 "UmbrellaQueue" "now" "LUmbrellaQueue$State;", Cond.fieldLink RX3 124 "UmbrellaQueue$State" "size" "I", Cond.fieldLink RX3 192 "UmbrellaQueue$State" "came" "I", Cond.fieldLink RX3 195 "UmbrellaQueue$State" "left" "I", Cond.fieldLink RX3 198 "UmbrellaQueue$State" "soaked" "I", Cond.fieldLink RX3 201 "UmbrellaQueue$State" "served" "I", Cond.fieldLink RX3 204 "UmbrellaQueue$State" "paid" "I", Cond.fieldLink RX3 207 "UmbrellaQueue$State" "unpaid" "I", Cond.fieldLink RX3 210 "UmbrellaQueue$State" "swaps" "I", Cond.fieldLink RX3 213 "UmbrellaQueue$State" "gusts" "I", Cond.fieldLink RX3 216 "UmbrellaQueue$State" "minutes" "I", Cond.fieldLink RX3 228 "UmbrellaQueue$State" "settings" "[I", Cond.fieldLink RX3 22 "UmbrellaQueue" "history" "LUmbrellaQueue$History;", Cond.fieldLink RX3 114 "UmbrellaQueue$History" "depth" "I", Cond.fieldLink RX3 29 "UmbrellaQueue" "weather" "LUmbrellaQueue$Weather;", Cond.fieldLink RX3 231 "UmbrellaQueue$Weather" "length" "I", Cond.methodLink RX3 219 yX1_totalWetness, Cond.instanceMethod yX1_totalWetness, Cond.selects RX1 yX1_totalWetness yX1_totalWetness]
def wsL_act_r2 : List Cond := [Cond.initialized RX1, Cond.code yX1_totalWetness cX1_totalWetness 3 (some .int), Cond.fieldLink RX1 39 "UmbrellaQueue$State" "size" "I", Cond.fieldLink RX1 15 "UmbrellaQueue$State" "wetness" "[I", Cond.methodLink RX3 222 yX1_wettest, Cond.instanceMethod yX1_wettest, Cond.selects RX1 yX1_wettest yX1_wettest, Cond.code yX1_wettest cX1_wettest 4 (some .int), Cond.methodLink RX3 225 yX1_placesUnreached, Cond.instanceMethod yX1_placesUnreached, Cond.selects RX1 yX1_placesUnreached yX1_placesUnreached, Cond.code yX1_placesUnreached cX1_placesUnreached 3 (some .int), Cond.methodLink RX1 142 yX1_umbrellasOver, Cond.instanceMethod yX1_umbrellasOver, Cond.selects RX1 yX1_umbrellasOver yX1_umbrellasOver, Cond.code yX1_umbrellasOver cX1_umbrellasOver 4 (some .int), Cond.fieldLink RX1 24 "UmbrellaQueue$State" "widths" "[I", Cond.methodLink RX1 136 yX1_leastReached, Cond.instanceMethod yX1_leastReached, Cond.selects RX1 yX1_leastReached yX1_leastReached, Cond.code yX1_leastReached cX1_leastReached 2 (some .int), Cond.methodLink RX1 112 Lib.Math.max.name, Cond.static Lib.Math.max.name, Cond.initialized "java/lang/Math"]
def wsL_act_r3 : List Cond := [Cond.code Lib.Math.max.name Lib.Math.max.code 2 (some .int), Cond.methodLink RX1 139 yX1_greatestReached, Cond.instanceMethod yX1_greatestReached, Cond.selects RX1 yX1_greatestReached yX1_greatestReached, Cond.code yX1_greatestReached cX1_greatestReached 2 (some .int), Cond.methodLink RX1 133 Lib.Math.min.name, Cond.static Lib.Math.min.name, Cond.code Lib.Math.min.name Lib.Math.min.code 2 (some .int), Cond.static yX3_isWithin, Cond.code yX3_isWithin cX3_isWithin 3 (some .boolean), Cond.methodLink RL 15 yL_low, Cond.static yL_low, Cond.initialized RL, Cond.code yL_low cL_low 2 (some .int), Cond.constant RL 8 (2147483647), Cond.methodLink RL 21 yX3_come, Cond.instanceMethod yX3_come, Cond.selects RX3 yX3_come yX3_come, Cond.code yX3_come cX3_come 4 (some .int), Cond.methodLink RX3 40 yX0_draft, Cond.instanceMethod yX0_draft, Cond.selects RX0 yX0_draft yX0_draft, Cond.initialized RX0, Cond.code yX0_draft cX0_draft 2 none]
def wsL_act_r4 : List Cond := [Cond.methodLink RX0 20 yX0_drafted, Cond.instanceMethod yX0_drafted, Cond.selects RX0 yX0_drafted yX0_drafted, Cond.code yX0_drafted cX0_drafted 1 (some (.object "UmbrellaQueue$State")), Cond.fieldLink RX0 11 "UmbrellaQueue$History" "states" "[LUmbrellaQueue$State;", Cond.fieldLink RX0 16 "UmbrellaQueue$History" "depth" "I", Cond.methodLink RX0 24 yX1_copyFrom, Cond.instanceMethod yX1_copyFrom, Cond.selects RX1 yX1_copyFrom yX1_copyFrom, Cond.code yX1_copyFrom cX1_copyFrom 2 none, Cond.fieldLink RX1 9 "UmbrellaQueue$State" "numbers" "[I", Cond.methodLink RX1 33 arraycopyName, Cond.native arraycopyName, Cond.static arraycopyName, Cond.initialized "java/lang/System", Cond.fieldLink RX1 18 "UmbrellaQueue$State" "patience" "[I", Cond.fieldLink RX1 21 "UmbrellaQueue$State" "coins" "[I", Cond.fieldLink RX1 27 "UmbrellaQueue$State" "swapped" "[I", Cond.fieldLink RX1 30 "UmbrellaQueue$State" "settings" "[I", Cond.fieldLink RX1 43 "UmbrellaQueue$State" "came" "I", Cond.fieldLink RX1 46 "UmbrellaQueue$State" "left" "I", Cond.fieldLink RX1 49 "UmbrellaQueue$State" "soaked" "I", Cond.fieldLink RX1 52 "UmbrellaQueue$State" "served" "I", Cond.fieldLink RX1 55 "UmbrellaQueue$State" "paid" "I"]
def wsL_act_r5 : List Cond := [Cond.fieldLink RX1 58 "UmbrellaQueue$State" "unpaid" "I", Cond.fieldLink RX1 61 "UmbrellaQueue$State" "swaps" "I", Cond.fieldLink RX1 64 "UmbrellaQueue$State" "gusts" "I", Cond.fieldLink RX1 67 "UmbrellaQueue$State" "minutes" "I", Cond.methodLink RX3 44 yX1_admit, Cond.instanceMethod yX1_admit, Cond.selects RX1 yX1_admit yX1_admit, Cond.code yX1_admit cX1_admit 5 (some .int), Cond.methodLink RX3 48 yX3_recorded, Cond.instanceMethod yX3_recorded, Cond.selects RX3 yX3_recorded yX3_recorded, Cond.code yX3_recorded cX3_recorded 2 (some .int), Cond.methodLink RX3 234 yX0_keepDraft, Cond.instanceMethod yX0_keepDraft, Cond.selects RX0 yX0_keepDraft yX0_keepDraft, Cond.code yX0_keepDraft cX0_keepDraft 3 none, Cond.methodLink RL 25 yX3_leave, Cond.instanceMethod yX3_leave, Cond.selects RX3 yX3_leave yX3_leave, Cond.code yX3_leave cX3_leave 2 (some .int), Cond.methodLink RX3 52 yX1_dismiss, Cond.instanceMethod yX1_dismiss, Cond.selects RX1 yX1_dismiss yX1_dismiss, Cond.code yX1_dismiss cX1_dismiss 3 (some .int)]
def wsL_act_r6 : List Cond := [Cond.methodLink RX1 74 yX1_isPlace, Cond.instanceMethod yX1_isPlace, Cond.selects RX1 yX1_isPlace yX1_isPlace, Cond.code yX1_isPlace cX1_isPlace 2 (some .boolean), Cond.methodLink RX1 78 yX1_remove, Cond.instanceMethod yX1_remove, Cond.selects RX1 yX1_remove yX1_remove, Cond.code yX1_remove cX1_remove 2 none, Cond.methodLink RX1 130 yX1_closeGap, Cond.static yX1_closeGap, Cond.code yX1_closeGap cX1_closeGap 2 none, Cond.methodLink RL 28 yX3_letAhead, Cond.instanceMethod yX3_letAhead, Cond.selects RX3 yX3_letAhead yX3_letAhead, Cond.code yX3_letAhead cX3_letAhead 2 (some .int), Cond.methodLink RX3 55 yX1_changePlaces, Cond.instanceMethod yX1_changePlaces, Cond.selects RX1 yX1_changePlaces yX1_changePlaces, Cond.code yX1_changePlaces cX1_changePlaces 2 (some .int), Cond.methodLink RX1 82 yX1_hasNeighbour, Cond.instanceMethod yX1_hasNeighbour, Cond.selects RX1 yX1_hasNeighbour yX1_hasNeighbour, Cond.code yX1_hasNeighbour cX1_hasNeighbour 2 (some .boolean), Cond.methodLink RX1 85 yX1_exchange]
def wsL_act_r7 : List Cond := [Cond.static yX1_exchange, Cond.code yX1_exchange cX1_exchange 3 none, Cond.methodLink RL 31 yX3_swap, Cond.instanceMethod yX3_swap, Cond.selects RX3 yX3_swap yX3_swap, Cond.code yX3_swap cX3_swap 2 (some .int), Cond.methodLink RX3 58 yX1_swapUmbrellas, Cond.instanceMethod yX1_swapUmbrellas, Cond.selects RX1 yX1_swapUmbrellas yX1_swapUmbrellas, Cond.code yX1_swapUmbrellas cX1_swapUmbrellas 3 (some .int), Cond.methodLink RX1 89 yX1_refusal, Cond.instanceMethod yX1_refusal, Cond.selects RX1 yX1_refusal yX1_refusal, Cond.code yX1_refusal cX1_refusal 7 (some .int), Cond.methodLink RL 34 yX3_set, Cond.instanceMethod yX3_set, Cond.selects RX3 yX3_set yX3_set, Cond.code yX3_set cX3_set 3 (some .int), Cond.methodLink RX3 61 yX1_changeSetting, Cond.instanceMethod yX1_changeSetting, Cond.selects RX1 yX1_changeSetting yX1_changeSetting, Cond.code yX1_changeSetting cX1_changeSetting 4 (some .int), Cond.methodLink RL 37 yX3_serve, Cond.instanceMethod yX3_serve]
def wsL_act_r8 : List Cond := [Cond.selects RX3 yX3_serve yX3_serve, Cond.code yX3_serve cX3_serve 1 (some .int), Cond.methodLink RX3 71 yX1_serveFirst, Cond.instanceMethod yX1_serveFirst, Cond.selects RX1 yX1_serveFirst yX1_serveFirst, Cond.code yX1_serveFirst cX1_serveFirst 4 (some .int), Cond.methodLink RX1 118 yX1_peopleToServe, Cond.instanceMethod yX1_peopleToServe, Cond.selects RX1 yX1_peopleToServe yX1_peopleToServe, Cond.code yX1_peopleToServe cX1_peopleToServe 1 (some .int), Cond.methodLink RX1 121 yX1_driestToServe, Cond.instanceMethod yX1_driestToServe, Cond.selects RX1 yX1_driestToServe yX1_driestToServe, Cond.code yX1_driestToServe cX1_driestToServe 4 (some .int), Cond.methodLink RX1 124 yX1_paidFrom, Cond.instanceMethod yX1_paidFrom, Cond.selects RX1 yX1_paidFrom yX1_paidFrom, Cond.code yX1_paidFrom cX1_paidFrom 2 (some .int), Cond.methodLink RX1 127 yX1_fareForAll, Cond.instanceMethod yX1_fareForAll, Cond.selects RX1 yX1_fareForAll yX1_fareForAll, Cond.code yX1_fareForAll cX1_fareForAll 1 (some .int), Cond.methodLink RL 41 yX3_pass, Cond.instanceMethod yX3_pass]
def wsL_act_r9 : List Cond := [Cond.selects RX3 yX3_pass yX3_pass, Cond.code yX3_pass cX3_pass 2 (some .int), Cond.methodLink RX3 68 yX1_dry, Cond.instanceMethod yX1_dry, Cond.selects RX1 yX1_dry yX1_dry, Cond.code yX1_dry cX1_dry 4 (some .int), Cond.constant RX1 111 (99999), Cond.methodLink RL 44 yL_gust, Cond.static yL_gust, Cond.code yL_gust cL_gust 12 (some .int), Cond.arrayClass .int, Cond.methodLink RL 48 yX3_ifGust, Cond.instanceMethod yX3_ifGust, Cond.selects RX3 yX3_ifGust yX3_ifGust, Cond.code yX3_ifGust cX3_ifGust 5 (some .int), Cond.fieldLink RX3 136 "UmbrellaQueue$State" "patience" "[I", Cond.methodLink RX3 127 yX1_isPlace, Cond.methodLink RX3 161 yX3_isGust, Cond.static yX3_isGust, Cond.code yX3_isGust cX3_isGust 2 (some .boolean), Cond.methodLink RX3 157 yX3_isWithin, Cond.methodLink RX3 165 yX1_isCovered, Cond.instanceMethod yX1_isCovered, Cond.selects RX1 yX1_isCovered yX1_isCovered]
def wsL_act_r10 : List Cond := [Cond.code yX1_isCovered cX1_isCovered 6 (some .boolean), Cond.methodLink RX3 168 yX1_umbrellasRunningOnto, Cond.instanceMethod yX1_umbrellasRunningOnto, Cond.selects RX1 yX1_umbrellasRunningOnto yX1_umbrellasRunningOnto, Cond.code yX1_umbrellasRunningOnto cX1_umbrellasRunningOnto 4 (some .int), Cond.methodLink RX3 171 yX1_wetnessAfter, Cond.instanceMethod yX1_wetnessAfter, Cond.selects RX1 yX1_wetnessAfter yX1_wetnessAfter, Cond.code yX1_wetnessAfter cX1_wetnessAfter 4 (some .int), Cond.methodLink RX1 145 yX1_wetterBy, Cond.instanceMethod yX1_wetterBy, Cond.selects RX1 yX1_wetterBy yX1_wetterBy, Cond.code yX1_wetterBy cX1_wetterBy 5 (some .int), Cond.methodLink RX1 148 yX1_umbrellasRunningOnto, Cond.methodLink RX1 151 yX1_isCovered, Cond.methodLink RL 52 yX3_person, Cond.instanceMethod yX3_person, Cond.selects RX3 yX3_person yX3_person, Cond.code yX3_person cX3_person 3 (some .int), Cond.fieldLink RX3 130 "UmbrellaQueue$State" "numbers" "[I", Cond.fieldLink RX3 133 "UmbrellaQueue$State" "wetness" "[I", Cond.fieldLink RX3 139 "UmbrellaQueue$State" "coins" "[I", Cond.fieldLink RX3 142 "UmbrellaQueue$State" "widths" "[I", Cond.fieldLink RX3 154 "UmbrellaQueue$State" "swapped" "[I"]
def wsL_act_r11 : List Cond := [Cond.methodLink RX3 145 yX1_leastReached, Cond.methodLink RX3 148 yX1_greatestReached, Cond.methodLink RX3 151 yX1_umbrellasOver, Cond.methodLink RL 55 yX3_gust, Cond.instanceMethod yX3_gust, Cond.selects RX3 yX3_gust yX3_gust, Cond.code yX3_gust cX3_gust 3 (some .int), Cond.methodLink RX3 65 yX1_rain, Cond.instanceMethod yX1_rain, Cond.selects RX1 yX1_rain yX1_rain, Cond.code yX1_rain cX1_rain 4 (some .int), Cond.methodLink RX1 103 yX1_wetnessAfter, Cond.methodLink RX1 107 yX1_removeSoaked, Cond.instanceMethod yX1_removeSoaked, Cond.selects RX1 yX1_removeSoaked yX1_removeSoaked, Cond.code yX1_removeSoaked cX1_removeSoaked 3 (some .int), Cond.methodLink RL 57 yX3_placeOf, Cond.instanceMethod yX3_placeOf, Cond.selects RX3 yX3_placeOf yX3_placeOf, Cond.code yX3_placeOf cX3_placeOf 3 (some .int)]
def wsL_act : List Cond := .code yL_act cL_act 5 (some .int) :: ((wsL_act_r1 ++ (wsL_act_r2 ++ (wsL_act_r3 ++ (wsL_act_r4 ++ (wsL_act_r5 ++ (wsL_act_r6 ++ (wsL_act_r7 ++ (wsL_act_r8 ++ (wsL_act_r9 ++ (wsL_act_r10 ++ wsL_act_r11)))))))))) ++ wsX30 ++ wsX10 ++ wsX00 ++ wsX20)
def wsL_reaches_r1 : List Cond := [Cond.methodLink RL 52 yX3_person, Cond.instanceMethod yX3_person, Cond.selects RX3 yX3_person yX3_person, Cond.initialized RX3, Cond.code yX3_person cX3_person 3 (some .int), Cond.fieldLink RX3 10 "UmbrellaQueue" "now" "LUmbrellaQueue$State;", Cond.fieldLink RX3 130 "UmbrellaQueue$State" "numbers" "[I", Cond.fieldLink RX3 133 "UmbrellaQueue$State" "wetness" "[I", Cond.fieldLink RX3 136 "UmbrellaQueue$State" "patience" "[I", Cond.fieldLink RX3 139 "UmbrellaQueue$State" "coins" "[I", Cond.fieldLink RX3 142 "UmbrellaQueue$State" "widths" "[I", Cond.fieldLink RX3 154 "UmbrellaQueue$State" "swapped" "[I", Cond.methodLink RX3 127 yX1_isPlace, Cond.instanceMethod yX1_isPlace, Cond.selects RX1 yX1_isPlace yX1_isPlace, Cond.initialized RX1, Cond.code yX1_isPlace cX1_isPlace 2 (some .boolean), Cond.fieldLink RX1 39 "UmbrellaQueue$State" "size" "I", Cond.methodLink RX3 145 yX1_leastReached, Cond.instanceMethod yX1_leastReached, Cond.selects RX1 yX1_leastReached yX1_leastReached, Cond.code yX1_leastReached cX1_leastReached 2 (some .int), Cond.fieldLink RX1 24 "UmbrellaQueue$State" "widths" "[I", Cond.methodLink RX1 112 Lib.Math.max.name]
def wsL_reaches_r2 : List Cond := [Cond.static Lib.Math.max.name, Cond.initialized "java/lang/Math", Cond.code Lib.Math.max.name Lib.Math.max.code 2 (some .int), Cond.methodLink RX3 148 yX1_greatestReached, Cond.instanceMethod yX1_greatestReached, Cond.selects RX1 yX1_greatestReached yX1_greatestReached, Cond.code yX1_greatestReached cX1_greatestReached 2 (some .int), Cond.methodLink RX1 133 Lib.Math.min.name, Cond.static Lib.Math.min.name, Cond.code Lib.Math.min.name Lib.Math.min.code 2 (some .int), Cond.methodLink RX3 151 yX1_umbrellasOver, Cond.instanceMethod yX1_umbrellasOver, Cond.selects RX1 yX1_umbrellasOver yX1_umbrellasOver, Cond.code yX1_umbrellasOver cX1_umbrellasOver 4 (some .int), Cond.methodLink RX1 136 yX1_leastReached, Cond.methodLink RX1 139 yX1_greatestReached, Cond.static yX3_isWithin, Cond.code yX3_isWithin cX3_isWithin 3 (some .boolean), Cond.methodLink RL 9 yX3_count, Cond.instanceMethod yX3_count, Cond.selects RX3 yX3_count yX3_count, Cond.code yX3_count cX3_count 2 (some .int), Cond.fieldLink RX3 124 "UmbrellaQueue$State" "size" "I", Cond.fieldLink RX3 192 "UmbrellaQueue$State" "came" "I"]
def wsL_reaches_r3 : List Cond := [Cond.fieldLink RX3 195 "UmbrellaQueue$State" "left" "I", Cond.fieldLink RX3 198 "UmbrellaQueue$State" "soaked" "I", Cond.fieldLink RX3 201 "UmbrellaQueue$State" "served" "I", Cond.fieldLink RX3 204 "UmbrellaQueue$State" "paid" "I", Cond.fieldLink RX3 207 "UmbrellaQueue$State" "unpaid" "I", Cond.fieldLink RX3 210 "UmbrellaQueue$State" "swaps" "I", Cond.fieldLink RX3 213 "UmbrellaQueue$State" "gusts" "I", Cond.fieldLink RX3 216 "UmbrellaQueue$State" "minutes" "I", Cond.fieldLink RX3 228 "UmbrellaQueue$State" "settings" "[I", Cond.fieldLink RX3 22 "UmbrellaQueue" "history" "LUmbrellaQueue$History;", Cond.fieldLink RX3 114 "UmbrellaQueue$History" "depth" "I", Cond.fieldLink RX3 29 "UmbrellaQueue" "weather" "LUmbrellaQueue$Weather;", Cond.fieldLink RX3 231 "UmbrellaQueue$Weather" "length" "I", Cond.methodLink RX3 219 yX1_totalWetness, Cond.instanceMethod yX1_totalWetness, Cond.selects RX1 yX1_totalWetness yX1_totalWetness, Cond.code yX1_totalWetness cX1_totalWetness 3 (some .int), Cond.fieldLink RX1 15 "UmbrellaQueue$State" "wetness" "[I", Cond.methodLink RX3 222 yX1_wettest, Cond.instanceMethod yX1_wettest, Cond.selects RX1 yX1_wettest yX1_wettest, Cond.code yX1_wettest cX1_wettest 4 (some .int), Cond.methodLink RX3 225 yX1_placesUnreached, Cond.instanceMethod yX1_placesUnreached]
def wsL_reaches_r4 : List Cond := [Cond.selects RX1 yX1_placesUnreached yX1_placesUnreached, Cond.code yX1_placesUnreached cX1_placesUnreached 3 (some .int), Cond.methodLink RX1 142 yX1_umbrellasOver]
def wsL_reaches : List Cond := .code yL_reaches cL_reaches 4 (some .boolean) :: ((wsL_reaches_r1 ++ (wsL_reaches_r2 ++ (wsL_reaches_r3 ++ wsL_reaches_r4))) ++ wsX30 ++ wsX10 ++ wsX00 ++ wsX20)
def wsL_isGust_r1 : List Cond := [Cond.methodLink RL 9 yX3_count, Cond.instanceMethod yX3_count, Cond.selects RX3 yX3_count yX3_count, Cond.initialized RX3, Cond.code yX3_count cX3_count 2 (some .int), Cond.fieldLink RX3 10 "UmbrellaQueue" "now" "LUmbrellaQueue$State;", Cond.fieldLink RX3 124 "UmbrellaQueue$State" "size" "I", Cond.fieldLink RX3 192 "UmbrellaQueue$State" "came" "I", Cond.fieldLink RX3 195 "UmbrellaQueue$State" "left" "I", Cond.fieldLink RX3 198 "UmbrellaQueue$State" "soaked" "I", Cond.fieldLink RX3 201 "UmbrellaQueue$State" "served" "I", Cond.fieldLink RX3 204 "UmbrellaQueue$State" "paid" "I", Cond.fieldLink RX3 207 "UmbrellaQueue$State" "unpaid" "I", Cond.fieldLink RX3 210 "UmbrellaQueue$State" "swaps" "I", Cond.fieldLink RX3 213 "UmbrellaQueue$State" "gusts" "I", Cond.fieldLink RX3 216 "UmbrellaQueue$State" "minutes" "I", Cond.fieldLink RX3 228 "UmbrellaQueue$State" "settings" "[I", Cond.fieldLink RX3 22 "UmbrellaQueue" "history" "LUmbrellaQueue$History;", Cond.fieldLink RX3 114 "UmbrellaQueue$History" "depth" "I", Cond.fieldLink RX3 29 "UmbrellaQueue" "weather" "LUmbrellaQueue$Weather;", Cond.fieldLink RX3 231 "UmbrellaQueue$Weather" "length" "I", Cond.methodLink RX3 219 yX1_totalWetness, Cond.instanceMethod yX1_totalWetness, Cond.selects RX1 yX1_totalWetness yX1_totalWetness]
def wsL_isGust_r2 : List Cond := [Cond.initialized RX1, Cond.code yX1_totalWetness cX1_totalWetness 3 (some .int), Cond.fieldLink RX1 39 "UmbrellaQueue$State" "size" "I", Cond.fieldLink RX1 15 "UmbrellaQueue$State" "wetness" "[I", Cond.methodLink RX3 222 yX1_wettest, Cond.instanceMethod yX1_wettest, Cond.selects RX1 yX1_wettest yX1_wettest, Cond.code yX1_wettest cX1_wettest 4 (some .int), Cond.methodLink RX3 225 yX1_placesUnreached, Cond.instanceMethod yX1_placesUnreached, Cond.selects RX1 yX1_placesUnreached yX1_placesUnreached, Cond.code yX1_placesUnreached cX1_placesUnreached 3 (some .int), Cond.methodLink RX1 142 yX1_umbrellasOver, Cond.instanceMethod yX1_umbrellasOver, Cond.selects RX1 yX1_umbrellasOver yX1_umbrellasOver, Cond.code yX1_umbrellasOver cX1_umbrellasOver 4 (some .int), Cond.fieldLink RX1 24 "UmbrellaQueue$State" "widths" "[I", Cond.methodLink RX1 136 yX1_leastReached, Cond.instanceMethod yX1_leastReached, Cond.selects RX1 yX1_leastReached yX1_leastReached, Cond.code yX1_leastReached cX1_leastReached 2 (some .int), Cond.methodLink RX1 112 Lib.Math.max.name, Cond.static Lib.Math.max.name, Cond.initialized "java/lang/Math"]
def wsL_isGust_r3 : List Cond := [Cond.code Lib.Math.max.name Lib.Math.max.code 2 (some .int), Cond.methodLink RX1 139 yX1_greatestReached, Cond.instanceMethod yX1_greatestReached, Cond.selects RX1 yX1_greatestReached yX1_greatestReached, Cond.code yX1_greatestReached cX1_greatestReached 2 (some .int), Cond.methodLink RX1 133 Lib.Math.min.name, Cond.static Lib.Math.min.name, Cond.code Lib.Math.min.name Lib.Math.min.code 2 (some .int), Cond.static yX3_isWithin, Cond.code yX3_isWithin cX3_isWithin 3 (some .boolean), Cond.methodLink RL 60 yL_reaches, Cond.static yL_reaches, Cond.initialized RL, Cond.code yL_reaches cL_reaches 4 (some .boolean), Cond.methodLink RL 52 yX3_person, Cond.instanceMethod yX3_person, Cond.selects RX3 yX3_person yX3_person, Cond.code yX3_person cX3_person 3 (some .int), Cond.fieldLink RX3 130 "UmbrellaQueue$State" "numbers" "[I", Cond.fieldLink RX3 133 "UmbrellaQueue$State" "wetness" "[I", Cond.fieldLink RX3 136 "UmbrellaQueue$State" "patience" "[I", Cond.fieldLink RX3 139 "UmbrellaQueue$State" "coins" "[I", Cond.fieldLink RX3 142 "UmbrellaQueue$State" "widths" "[I", Cond.fieldLink RX3 154 "UmbrellaQueue$State" "swapped" "[I"]
def wsL_isGust_r4 : List Cond := [Cond.methodLink RX3 127 yX1_isPlace, Cond.instanceMethod yX1_isPlace, Cond.selects RX1 yX1_isPlace yX1_isPlace, Cond.code yX1_isPlace cX1_isPlace 2 (some .boolean), Cond.methodLink RX3 145 yX1_leastReached, Cond.methodLink RX3 148 yX1_greatestReached, Cond.methodLink RX3 151 yX1_umbrellasOver, Cond.methodLink RL 48 yX3_ifGust, Cond.instanceMethod yX3_ifGust, Cond.selects RX3 yX3_ifGust yX3_ifGust, Cond.code yX3_ifGust cX3_ifGust 5 (some .int), Cond.methodLink RX3 161 yX3_isGust, Cond.static yX3_isGust, Cond.code yX3_isGust cX3_isGust 2 (some .boolean), Cond.methodLink RX3 157 yX3_isWithin, Cond.methodLink RX3 165 yX1_isCovered, Cond.instanceMethod yX1_isCovered, Cond.selects RX1 yX1_isCovered yX1_isCovered, Cond.code yX1_isCovered cX1_isCovered 6 (some .boolean), Cond.methodLink RX3 168 yX1_umbrellasRunningOnto, Cond.instanceMethod yX1_umbrellasRunningOnto, Cond.selects RX1 yX1_umbrellasRunningOnto yX1_umbrellasRunningOnto, Cond.code yX1_umbrellasRunningOnto cX1_umbrellasRunningOnto 4 (some .int), Cond.methodLink RX3 171 yX1_wetnessAfter]
def wsL_isGust_r5 : List Cond := [Cond.instanceMethod yX1_wetnessAfter, Cond.selects RX1 yX1_wetnessAfter yX1_wetnessAfter, Cond.code yX1_wetnessAfter cX1_wetnessAfter 4 (some .int), Cond.methodLink RX1 145 yX1_wetterBy, Cond.instanceMethod yX1_wetterBy, Cond.selects RX1 yX1_wetterBy yX1_wetterBy, Cond.code yX1_wetterBy cX1_wetterBy 5 (some .int), Cond.methodLink RX1 148 yX1_umbrellasRunningOnto, Cond.methodLink RX1 151 yX1_isCovered]
def wsL_isGust : List Cond := .code yL_isGust cL_isGust 8 (some .boolean) :: ((wsL_isGust_r1 ++ (wsL_isGust_r2 ++ (wsL_isGust_r3 ++ (wsL_isGust_r4 ++ wsL_isGust_r5)))) ++ wsX30 ++ wsX10 ++ wsX00 ++ wsX20)
def wsL_isPerson_r1 : List Cond := [Cond.methodLink RL 52 yX3_person, Cond.instanceMethod yX3_person, Cond.selects RX3 yX3_person yX3_person, Cond.initialized RX3, Cond.code yX3_person cX3_person 3 (some .int), Cond.fieldLink RX3 10 "UmbrellaQueue" "now" "LUmbrellaQueue$State;", Cond.fieldLink RX3 130 "UmbrellaQueue$State" "numbers" "[I", Cond.fieldLink RX3 133 "UmbrellaQueue$State" "wetness" "[I", Cond.fieldLink RX3 136 "UmbrellaQueue$State" "patience" "[I", Cond.fieldLink RX3 139 "UmbrellaQueue$State" "coins" "[I", Cond.fieldLink RX3 142 "UmbrellaQueue$State" "widths" "[I", Cond.fieldLink RX3 154 "UmbrellaQueue$State" "swapped" "[I", Cond.methodLink RX3 127 yX1_isPlace, Cond.instanceMethod yX1_isPlace, Cond.selects RX1 yX1_isPlace yX1_isPlace, Cond.initialized RX1, Cond.code yX1_isPlace cX1_isPlace 2 (some .boolean), Cond.fieldLink RX1 39 "UmbrellaQueue$State" "size" "I", Cond.methodLink RX3 145 yX1_leastReached, Cond.instanceMethod yX1_leastReached, Cond.selects RX1 yX1_leastReached yX1_leastReached, Cond.code yX1_leastReached cX1_leastReached 2 (some .int), Cond.fieldLink RX1 24 "UmbrellaQueue$State" "widths" "[I", Cond.methodLink RX1 112 Lib.Math.max.name]
def wsL_isPerson_r2 : List Cond := [Cond.static Lib.Math.max.name, Cond.initialized "java/lang/Math", Cond.code Lib.Math.max.name Lib.Math.max.code 2 (some .int), Cond.methodLink RX3 148 yX1_greatestReached, Cond.instanceMethod yX1_greatestReached, Cond.selects RX1 yX1_greatestReached yX1_greatestReached, Cond.code yX1_greatestReached cX1_greatestReached 2 (some .int), Cond.methodLink RX1 133 Lib.Math.min.name, Cond.static Lib.Math.min.name, Cond.code Lib.Math.min.name Lib.Math.min.code 2 (some .int), Cond.methodLink RX3 151 yX1_umbrellasOver, Cond.instanceMethod yX1_umbrellasOver, Cond.selects RX1 yX1_umbrellasOver yX1_umbrellasOver, Cond.code yX1_umbrellasOver cX1_umbrellasOver 4 (some .int), Cond.methodLink RX1 136 yX1_leastReached, Cond.methodLink RX1 139 yX1_greatestReached, Cond.static yX3_isWithin, Cond.code yX3_isWithin cX3_isWithin 3 (some .boolean), Cond.methodLink RL 9 yX3_count, Cond.instanceMethod yX3_count, Cond.selects RX3 yX3_count yX3_count, Cond.code yX3_count cX3_count 2 (some .int), Cond.fieldLink RX3 124 "UmbrellaQueue$State" "size" "I", Cond.fieldLink RX3 192 "UmbrellaQueue$State" "came" "I"]
def wsL_isPerson_r3 : List Cond := [Cond.fieldLink RX3 195 "UmbrellaQueue$State" "left" "I", Cond.fieldLink RX3 198 "UmbrellaQueue$State" "soaked" "I", Cond.fieldLink RX3 201 "UmbrellaQueue$State" "served" "I", Cond.fieldLink RX3 204 "UmbrellaQueue$State" "paid" "I", Cond.fieldLink RX3 207 "UmbrellaQueue$State" "unpaid" "I", Cond.fieldLink RX3 210 "UmbrellaQueue$State" "swaps" "I", Cond.fieldLink RX3 213 "UmbrellaQueue$State" "gusts" "I", Cond.fieldLink RX3 216 "UmbrellaQueue$State" "minutes" "I", Cond.fieldLink RX3 228 "UmbrellaQueue$State" "settings" "[I", Cond.fieldLink RX3 22 "UmbrellaQueue" "history" "LUmbrellaQueue$History;", Cond.fieldLink RX3 114 "UmbrellaQueue$History" "depth" "I", Cond.fieldLink RX3 29 "UmbrellaQueue" "weather" "LUmbrellaQueue$Weather;", Cond.fieldLink RX3 231 "UmbrellaQueue$Weather" "length" "I", Cond.methodLink RX3 219 yX1_totalWetness, Cond.instanceMethod yX1_totalWetness, Cond.selects RX1 yX1_totalWetness yX1_totalWetness, Cond.code yX1_totalWetness cX1_totalWetness 3 (some .int), Cond.fieldLink RX1 15 "UmbrellaQueue$State" "wetness" "[I", Cond.methodLink RX3 222 yX1_wettest, Cond.instanceMethod yX1_wettest, Cond.selects RX1 yX1_wettest yX1_wettest, Cond.code yX1_wettest cX1_wettest 4 (some .int), Cond.methodLink RX3 225 yX1_placesUnreached, Cond.instanceMethod yX1_placesUnreached]
def wsL_isPerson_r4 : List Cond := [Cond.selects RX1 yX1_placesUnreached yX1_placesUnreached, Cond.code yX1_placesUnreached cX1_placesUnreached 3 (some .int), Cond.methodLink RX1 142 yX1_umbrellasOver, Cond.methodLink RL 60 yL_reaches, Cond.static yL_reaches, Cond.initialized RL, Cond.code yL_reaches cL_reaches 4 (some .boolean), Cond.methodLink RL 57 yX3_placeOf, Cond.instanceMethod yX3_placeOf, Cond.selects RX3 yX3_placeOf yX3_placeOf, Cond.code yX3_placeOf cX3_placeOf 3 (some .int), Cond.methodLink RX3 157 yX3_isWithin, Cond.methodLink RL 15 yL_low, Cond.static yL_low, Cond.code yL_low cL_low 2 (some .int), Cond.constant RL 8 (2147483647), Cond.methodLink RL 64 yX3_bears, Cond.instanceMethod yX3_bears, Cond.selects RX3 yX3_bears yX3_bears, Cond.code yX3_bears cX3_bears 3 (some .int), Cond.methodLink RX3 189 yX1_gustsBorne, Cond.instanceMethod yX1_gustsBorne, Cond.selects RX1 yX1_gustsBorne yX1_gustsBorne, Cond.code yX1_gustsBorne cX1_gustsBorne 4 (some .int)]
def wsL_isPerson_r5 : List Cond := [Cond.fieldLink RX1 18 "UmbrellaQueue$State" "patience" "[I", Cond.methodLink RX1 145 yX1_wetterBy, Cond.instanceMethod yX1_wetterBy, Cond.selects RX1 yX1_wetterBy yX1_wetterBy, Cond.code yX1_wetterBy cX1_wetterBy 5 (some .int), Cond.methodLink RX1 148 yX1_umbrellasRunningOnto, Cond.instanceMethod yX1_umbrellasRunningOnto, Cond.selects RX1 yX1_umbrellasRunningOnto yX1_umbrellasRunningOnto, Cond.code yX1_umbrellasRunningOnto cX1_umbrellasRunningOnto 4 (some .int), Cond.methodLink RX1 151 yX1_isCovered, Cond.instanceMethod yX1_isCovered, Cond.selects RX1 yX1_isCovered yX1_isCovered, Cond.code yX1_isCovered cX1_isCovered 6 (some .boolean), Cond.methodLink RL 48 yX3_ifGust, Cond.instanceMethod yX3_ifGust, Cond.selects RX3 yX3_ifGust yX3_ifGust, Cond.code yX3_ifGust cX3_ifGust 5 (some .int), Cond.methodLink RX3 161 yX3_isGust, Cond.static yX3_isGust, Cond.code yX3_isGust cX3_isGust 2 (some .boolean), Cond.methodLink RX3 165 yX1_isCovered, Cond.methodLink RX3 168 yX1_umbrellasRunningOnto, Cond.methodLink RX3 171 yX1_wetnessAfter, Cond.instanceMethod yX1_wetnessAfter]
def wsL_isPerson_r6 : List Cond := [Cond.selects RX1 yX1_wetnessAfter yX1_wetnessAfter, Cond.code yX1_wetnessAfter cX1_wetnessAfter 4 (some .int), Cond.methodLink RL 67 yL_isGust, Cond.static yL_isGust, Cond.code yL_isGust cL_isGust 8 (some .boolean)]
def wsL_isPerson : List Cond := .code yL_isPerson cL_isPerson 12 (some .boolean) :: ((wsL_isPerson_r1 ++ (wsL_isPerson_r2 ++ (wsL_isPerson_r3 ++ (wsL_isPerson_r4 ++ (wsL_isPerson_r5 ++ wsL_isPerson_r6))))) ++ wsX30 ++ wsX10 ++ wsX00 ++ wsX20)
def wsL_all_r1 : List Cond := [Cond.methodLink RL 9 yX3_count, Cond.instanceMethod yX3_count, Cond.selects RX3 yX3_count yX3_count, Cond.initialized RX3, Cond.code yX3_count cX3_count 2 (some .int), Cond.fieldLink RX3 10 "UmbrellaQueue" "now" "LUmbrellaQueue$State;", Cond.fieldLink RX3 124 "UmbrellaQueue$State" "size" "I", Cond.fieldLink RX3 192 "UmbrellaQueue$State" "came" "I", Cond.fieldLink RX3 195 "UmbrellaQueue$State" "left" "I", Cond.fieldLink RX3 198 "UmbrellaQueue$State" "soaked" "I", Cond.fieldLink RX3 201 "UmbrellaQueue$State" "served" "I", Cond.fieldLink RX3 204 "UmbrellaQueue$State" "paid" "I", Cond.fieldLink RX3 207 "UmbrellaQueue$State" "unpaid" "I", Cond.fieldLink RX3 210 "UmbrellaQueue$State" "swaps" "I", Cond.fieldLink RX3 213 "UmbrellaQueue$State" "gusts" "I", Cond.fieldLink RX3 216 "UmbrellaQueue$State" "minutes" "I", Cond.fieldLink RX3 228 "UmbrellaQueue$State" "settings" "[I", Cond.fieldLink RX3 22 "UmbrellaQueue" "history" "LUmbrellaQueue$History;", Cond.fieldLink RX3 114 "UmbrellaQueue$History" "depth" "I", Cond.fieldLink RX3 29 "UmbrellaQueue" "weather" "LUmbrellaQueue$Weather;", Cond.fieldLink RX3 231 "UmbrellaQueue$Weather" "length" "I", Cond.methodLink RX3 219 yX1_totalWetness, Cond.instanceMethod yX1_totalWetness, Cond.selects RX1 yX1_totalWetness yX1_totalWetness]
def wsL_all_r2 : List Cond := [Cond.initialized RX1, Cond.code yX1_totalWetness cX1_totalWetness 3 (some .int), Cond.fieldLink RX1 39 "UmbrellaQueue$State" "size" "I", Cond.fieldLink RX1 15 "UmbrellaQueue$State" "wetness" "[I", Cond.methodLink RX3 222 yX1_wettest, Cond.instanceMethod yX1_wettest, Cond.selects RX1 yX1_wettest yX1_wettest, Cond.code yX1_wettest cX1_wettest 4 (some .int), Cond.methodLink RX3 225 yX1_placesUnreached, Cond.instanceMethod yX1_placesUnreached, Cond.selects RX1 yX1_placesUnreached yX1_placesUnreached, Cond.code yX1_placesUnreached cX1_placesUnreached 3 (some .int), Cond.methodLink RX1 142 yX1_umbrellasOver, Cond.instanceMethod yX1_umbrellasOver, Cond.selects RX1 yX1_umbrellasOver yX1_umbrellasOver, Cond.code yX1_umbrellasOver cX1_umbrellasOver 4 (some .int), Cond.fieldLink RX1 24 "UmbrellaQueue$State" "widths" "[I", Cond.methodLink RX1 136 yX1_leastReached, Cond.instanceMethod yX1_leastReached, Cond.selects RX1 yX1_leastReached yX1_leastReached, Cond.code yX1_leastReached cX1_leastReached 2 (some .int), Cond.methodLink RX1 112 Lib.Math.max.name, Cond.static Lib.Math.max.name, Cond.initialized "java/lang/Math"]
def wsL_all_r3 : List Cond := [Cond.code Lib.Math.max.name Lib.Math.max.code 2 (some .int), Cond.methodLink RX1 139 yX1_greatestReached, Cond.instanceMethod yX1_greatestReached, Cond.selects RX1 yX1_greatestReached yX1_greatestReached, Cond.code yX1_greatestReached cX1_greatestReached 2 (some .int), Cond.methodLink RX1 133 Lib.Math.min.name, Cond.static Lib.Math.min.name, Cond.code Lib.Math.min.name Lib.Math.min.code 2 (some .int), Cond.static yX3_isWithin, Cond.code yX3_isWithin cX3_isWithin 3 (some .boolean), Cond.methodLink RL 48 yX3_ifGust, Cond.instanceMethod yX3_ifGust, Cond.selects RX3 yX3_ifGust yX3_ifGust, Cond.code yX3_ifGust cX3_ifGust 5 (some .int), Cond.fieldLink RX3 136 "UmbrellaQueue$State" "patience" "[I", Cond.methodLink RX3 127 yX1_isPlace, Cond.instanceMethod yX1_isPlace, Cond.selects RX1 yX1_isPlace yX1_isPlace, Cond.code yX1_isPlace cX1_isPlace 2 (some .boolean), Cond.methodLink RX3 161 yX3_isGust, Cond.static yX3_isGust, Cond.code yX3_isGust cX3_isGust 2 (some .boolean), Cond.methodLink RX3 157 yX3_isWithin, Cond.methodLink RX3 165 yX1_isCovered]
def wsL_all_r4 : List Cond := [Cond.instanceMethod yX1_isCovered, Cond.selects RX1 yX1_isCovered yX1_isCovered, Cond.code yX1_isCovered cX1_isCovered 6 (some .boolean), Cond.methodLink RX3 168 yX1_umbrellasRunningOnto, Cond.instanceMethod yX1_umbrellasRunningOnto, Cond.selects RX1 yX1_umbrellasRunningOnto yX1_umbrellasRunningOnto, Cond.code yX1_umbrellasRunningOnto cX1_umbrellasRunningOnto 4 (some .int), Cond.methodLink RX3 171 yX1_wetnessAfter, Cond.instanceMethod yX1_wetnessAfter, Cond.selects RX1 yX1_wetnessAfter yX1_wetnessAfter, Cond.code yX1_wetnessAfter cX1_wetnessAfter 4 (some .int), Cond.methodLink RX1 145 yX1_wetterBy, Cond.instanceMethod yX1_wetterBy, Cond.selects RX1 yX1_wetterBy yX1_wetterBy, Cond.code yX1_wetterBy cX1_wetterBy 5 (some .int), Cond.methodLink RX1 148 yX1_umbrellasRunningOnto, Cond.methodLink RX1 151 yX1_isCovered]
def wsL_all : List Cond := .code yL_all cL_all 5 (some .int) :: ((wsL_all_r1 ++ (wsL_all_r2 ++ (wsL_all_r3 ++ wsL_all_r4))) ++ wsX30 ++ wsX10 ++ wsX00 ++ wsX20)
def wsL_isBest_r1 : List Cond := [Cond.methodLink RL 71 yX3_bestSwap, Cond.instanceMethod yX3_bestSwap, Cond.selects RX3 yX3_bestSwap yX3_bestSwap, Cond.initialized RX3, Cond.code yX3_bestSwap cX3_bestSwap 3 (some .int), Cond.fieldLink RX3 10 "UmbrellaQueue" "now" "LUmbrellaQueue$State;", Cond.methodLink RX3 161 yX3_isGust, Cond.static yX3_isGust, Cond.code yX3_isGust cX3_isGust 2 (some .boolean), Cond.methodLink RX3 157 yX3_isWithin, Cond.static yX3_isWithin, Cond.code yX3_isWithin cX3_isWithin 3 (some .boolean), Cond.methodLink RX3 180 yX1_driestSwap, Cond.instanceMethod yX1_driestSwap, Cond.selects RX1 yX1_driestSwap yX1_driestSwap, Cond.initialized RX1, Cond.code yX1_driestSwap cX1_driestSwap 7 (some .int), Cond.fieldLink RX1 39 "UmbrellaQueue$State" "size" "I", Cond.fieldLink RX1 24 "UmbrellaQueue$State" "widths" "[I", Cond.methodLink RX1 154 yX1_totalWetnessAfter, Cond.instanceMethod yX1_totalWetnessAfter, Cond.selects RX1 yX1_totalWetnessAfter yX1_totalWetnessAfter, Cond.code yX1_totalWetnessAfter cX1_totalWetnessAfter 5 (some .int), Cond.methodLink RX1 103 yX1_wetnessAfter]
def wsL_isBest_r2 : List Cond := [Cond.instanceMethod yX1_wetnessAfter, Cond.selects RX1 yX1_wetnessAfter yX1_wetnessAfter, Cond.code yX1_wetnessAfter cX1_wetnessAfter 4 (some .int), Cond.fieldLink RX1 15 "UmbrellaQueue$State" "wetness" "[I", Cond.methodLink RX1 133 Lib.Math.min.name, Cond.static Lib.Math.min.name, Cond.initialized "java/lang/Math", Cond.code Lib.Math.min.name Lib.Math.min.code 2 (some .int), Cond.methodLink RX1 145 yX1_wetterBy, Cond.instanceMethod yX1_wetterBy, Cond.selects RX1 yX1_wetterBy yX1_wetterBy, Cond.code yX1_wetterBy cX1_wetterBy 5 (some .int), Cond.methodLink RX1 148 yX1_umbrellasRunningOnto, Cond.instanceMethod yX1_umbrellasRunningOnto, Cond.selects RX1 yX1_umbrellasRunningOnto yX1_umbrellasRunningOnto, Cond.code yX1_umbrellasRunningOnto cX1_umbrellasRunningOnto 4 (some .int), Cond.methodLink RX1 136 yX1_leastReached, Cond.instanceMethod yX1_leastReached, Cond.selects RX1 yX1_leastReached yX1_leastReached, Cond.code yX1_leastReached cX1_leastReached 2 (some .int), Cond.methodLink RX1 112 Lib.Math.max.name, Cond.static Lib.Math.max.name, Cond.code Lib.Math.max.name Lib.Math.max.code 2 (some .int), Cond.methodLink RX1 139 yX1_greatestReached]
def wsL_isBest_r3 : List Cond := [Cond.instanceMethod yX1_greatestReached, Cond.selects RX1 yX1_greatestReached yX1_greatestReached, Cond.code yX1_greatestReached cX1_greatestReached 2 (some .int), Cond.methodLink RX1 151 yX1_isCovered, Cond.instanceMethod yX1_isCovered, Cond.selects RX1 yX1_isCovered yX1_isCovered, Cond.code yX1_isCovered cX1_isCovered 6 (some .boolean), Cond.methodLink RX1 89 yX1_refusal, Cond.instanceMethod yX1_refusal, Cond.selects RX1 yX1_refusal yX1_refusal, Cond.code yX1_refusal cX1_refusal 7 (some .int), Cond.methodLink RX1 85 yX1_exchange, Cond.static yX1_exchange, Cond.code yX1_exchange cX1_exchange 3 none, Cond.methodLink RL 74 yL_all, Cond.static yL_all, Cond.initialized RL, Cond.code yL_all cL_all 5 (some .int), Cond.methodLink RL 9 yX3_count, Cond.instanceMethod yX3_count, Cond.selects RX3 yX3_count yX3_count, Cond.code yX3_count cX3_count 2 (some .int), Cond.fieldLink RX3 124 "UmbrellaQueue$State" "size" "I", Cond.fieldLink RX3 192 "UmbrellaQueue$State" "came" "I"]
def wsL_isBest_r4 : List Cond := [Cond.fieldLink RX3 195 "UmbrellaQueue$State" "left" "I", Cond.fieldLink RX3 198 "UmbrellaQueue$State" "soaked" "I", Cond.fieldLink RX3 201 "UmbrellaQueue$State" "served" "I", Cond.fieldLink RX3 204 "UmbrellaQueue$State" "paid" "I", Cond.fieldLink RX3 207 "UmbrellaQueue$State" "unpaid" "I", Cond.fieldLink RX3 210 "UmbrellaQueue$State" "swaps" "I", Cond.fieldLink RX3 213 "UmbrellaQueue$State" "gusts" "I", Cond.fieldLink RX3 216 "UmbrellaQueue$State" "minutes" "I", Cond.fieldLink RX3 228 "UmbrellaQueue$State" "settings" "[I", Cond.fieldLink RX3 22 "UmbrellaQueue" "history" "LUmbrellaQueue$History;", Cond.fieldLink RX3 114 "UmbrellaQueue$History" "depth" "I", Cond.fieldLink RX3 29 "UmbrellaQueue" "weather" "LUmbrellaQueue$Weather;", Cond.fieldLink RX3 231 "UmbrellaQueue$Weather" "length" "I", Cond.methodLink RX3 219 yX1_totalWetness, Cond.instanceMethod yX1_totalWetness, Cond.selects RX1 yX1_totalWetness yX1_totalWetness, Cond.code yX1_totalWetness cX1_totalWetness 3 (some .int), Cond.methodLink RX3 222 yX1_wettest, Cond.instanceMethod yX1_wettest, Cond.selects RX1 yX1_wettest yX1_wettest, Cond.code yX1_wettest cX1_wettest 4 (some .int), Cond.methodLink RX3 225 yX1_placesUnreached, Cond.instanceMethod yX1_placesUnreached, Cond.selects RX1 yX1_placesUnreached yX1_placesUnreached]
def wsL_isBest_r5 : List Cond := [Cond.code yX1_placesUnreached cX1_placesUnreached 3 (some .int), Cond.methodLink RX1 142 yX1_umbrellasOver, Cond.instanceMethod yX1_umbrellasOver, Cond.selects RX1 yX1_umbrellasOver yX1_umbrellasOver, Cond.code yX1_umbrellasOver cX1_umbrellasOver 4 (some .int), Cond.methodLink RL 48 yX3_ifGust, Cond.instanceMethod yX3_ifGust, Cond.selects RX3 yX3_ifGust yX3_ifGust, Cond.code yX3_ifGust cX3_ifGust 5 (some .int), Cond.fieldLink RX3 136 "UmbrellaQueue$State" "patience" "[I", Cond.methodLink RX3 127 yX1_isPlace, Cond.instanceMethod yX1_isPlace, Cond.selects RX1 yX1_isPlace yX1_isPlace, Cond.code yX1_isPlace cX1_isPlace 2 (some .boolean), Cond.methodLink RX3 165 yX1_isCovered, Cond.methodLink RX3 168 yX1_umbrellasRunningOnto, Cond.methodLink RX3 171 yX1_wetnessAfter, Cond.methodLink RL 77 yX3_reason, Cond.instanceMethod yX3_reason, Cond.selects RX3 yX3_reason yX3_reason, Cond.code yX3_reason cX3_reason 2 (some .int), Cond.methodLink RX3 174 yX1_hasNeighbour, Cond.instanceMethod yX1_hasNeighbour, Cond.selects RX1 yX1_hasNeighbour yX1_hasNeighbour]
def wsL_isBest_r6 : List Cond := [Cond.code yX1_hasNeighbour cX1_hasNeighbour 2 (some .boolean), Cond.methodLink RX3 177 yX1_refusal, Cond.methodLink RL 52 yX3_person, Cond.instanceMethod yX3_person, Cond.selects RX3 yX3_person yX3_person, Cond.code yX3_person cX3_person 3 (some .int), Cond.fieldLink RX3 130 "UmbrellaQueue$State" "numbers" "[I", Cond.fieldLink RX3 133 "UmbrellaQueue$State" "wetness" "[I", Cond.fieldLink RX3 139 "UmbrellaQueue$State" "coins" "[I", Cond.fieldLink RX3 142 "UmbrellaQueue$State" "widths" "[I", Cond.fieldLink RX3 154 "UmbrellaQueue$State" "swapped" "[I", Cond.methodLink RX3 145 yX1_leastReached, Cond.methodLink RX3 148 yX1_greatestReached, Cond.methodLink RX3 151 yX1_umbrellasOver, Cond.methodLink RL 31 yX3_swap, Cond.instanceMethod yX3_swap, Cond.selects RX3 yX3_swap yX3_swap, Cond.code yX3_swap cX3_swap 2 (some .int), Cond.methodLink RX3 40 yX0_draft, Cond.instanceMethod yX0_draft, Cond.selects RX0 yX0_draft yX0_draft, Cond.initialized RX0, Cond.code yX0_draft cX0_draft 2 none, Cond.methodLink RX0 20 yX0_drafted]
def wsL_isBest_r7 : List Cond := [Cond.instanceMethod yX0_drafted, Cond.selects RX0 yX0_drafted yX0_drafted, Cond.code yX0_drafted cX0_drafted 1 (some (.object "UmbrellaQueue$State")), Cond.fieldLink RX0 11 "UmbrellaQueue$History" "states" "[LUmbrellaQueue$State;", Cond.fieldLink RX0 16 "UmbrellaQueue$History" "depth" "I", Cond.methodLink RX0 24 yX1_copyFrom, Cond.instanceMethod yX1_copyFrom, Cond.selects RX1 yX1_copyFrom yX1_copyFrom, Cond.code yX1_copyFrom cX1_copyFrom 2 none, Cond.fieldLink RX1 9 "UmbrellaQueue$State" "numbers" "[I", Cond.methodLink RX1 33 arraycopyName, Cond.native arraycopyName, Cond.static arraycopyName, Cond.initialized "java/lang/System", Cond.fieldLink RX1 18 "UmbrellaQueue$State" "patience" "[I", Cond.fieldLink RX1 21 "UmbrellaQueue$State" "coins" "[I", Cond.fieldLink RX1 27 "UmbrellaQueue$State" "swapped" "[I", Cond.fieldLink RX1 30 "UmbrellaQueue$State" "settings" "[I", Cond.fieldLink RX1 43 "UmbrellaQueue$State" "came" "I", Cond.fieldLink RX1 46 "UmbrellaQueue$State" "left" "I", Cond.fieldLink RX1 49 "UmbrellaQueue$State" "soaked" "I", Cond.fieldLink RX1 52 "UmbrellaQueue$State" "served" "I", Cond.fieldLink RX1 55 "UmbrellaQueue$State" "paid" "I", Cond.fieldLink RX1 58 "UmbrellaQueue$State" "unpaid" "I"]
def wsL_isBest_r8 : List Cond := [Cond.fieldLink RX1 61 "UmbrellaQueue$State" "swaps" "I", Cond.fieldLink RX1 64 "UmbrellaQueue$State" "gusts" "I", Cond.fieldLink RX1 67 "UmbrellaQueue$State" "minutes" "I", Cond.methodLink RX3 58 yX1_swapUmbrellas, Cond.instanceMethod yX1_swapUmbrellas, Cond.selects RX1 yX1_swapUmbrellas yX1_swapUmbrellas, Cond.code yX1_swapUmbrellas cX1_swapUmbrellas 3 (some .int), Cond.methodLink RX1 82 yX1_hasNeighbour, Cond.methodLink RX3 48 yX3_recorded, Cond.instanceMethod yX3_recorded, Cond.selects RX3 yX3_recorded yX3_recorded, Cond.code yX3_recorded cX3_recorded 2 (some .int), Cond.methodLink RX3 234 yX0_keepDraft, Cond.instanceMethod yX0_keepDraft, Cond.selects RX0 yX0_keepDraft yX0_keepDraft, Cond.code yX0_keepDraft cX0_keepDraft 3 none, Cond.methodLink RL 80 yX3_undo, Cond.instanceMethod yX3_undo, Cond.selects RX3 yX3_undo yX3_undo, Cond.code yX3_undo cX3_undo 1 (some .int), Cond.methodLink RX3 117 yX0_takeLatest, Cond.instanceMethod yX0_takeLatest, Cond.selects RX0 yX0_takeLatest yX0_takeLatest, Cond.code yX0_takeLatest cX0_takeLatest 1 (some (.object "UmbrellaQueue$State"))]
def wsL_isBest_r9 : List Cond := [Cond.methodLink RX3 111 yX1_copyFrom]
def wsL_isBest : List Cond := .code yL_isBest cL_isBest 11 (some .boolean) :: ((wsL_isBest_r1 ++ (wsL_isBest_r2 ++ (wsL_isBest_r3 ++ (wsL_isBest_r4 ++ (wsL_isBest_r5 ++ (wsL_isBest_r6 ++ (wsL_isBest_r7 ++ (wsL_isBest_r8 ++ wsL_isBest_r9)))))))) ++ wsX30 ++ wsX10 ++ wsX00 ++ wsX20)
def wsL_holds_r1 : List Cond := [Cond.methodLink RL 9 yX3_count, Cond.instanceMethod yX3_count, Cond.selects RX3 yX3_count yX3_count, Cond.initialized RX3, Cond.code yX3_count cX3_count 2 (some .int), Cond.fieldLink RX3 10 "UmbrellaQueue" "now" "LUmbrellaQueue$State;", Cond.fieldLink RX3 124 "UmbrellaQueue$State" "size" "I", Cond.fieldLink RX3 192 "UmbrellaQueue$State" "came" "I", Cond.fieldLink RX3 195 "UmbrellaQueue$State" "left" "I", Cond.fieldLink RX3 198 "UmbrellaQueue$State" "soaked" "I", Cond.fieldLink RX3 201 "UmbrellaQueue$State" "served" "I", Cond.fieldLink RX3 204 "UmbrellaQueue$State" "paid" "I", Cond.fieldLink RX3 207 "UmbrellaQueue$State" "unpaid" "I", Cond.fieldLink RX3 210 "UmbrellaQueue$State" "swaps" "I", Cond.fieldLink RX3 213 "UmbrellaQueue$State" "gusts" "I", Cond.fieldLink RX3 216 "UmbrellaQueue$State" "minutes" "I", Cond.fieldLink RX3 228 "UmbrellaQueue$State" "settings" "[I", Cond.fieldLink RX3 22 "UmbrellaQueue" "history" "LUmbrellaQueue$History;", Cond.fieldLink RX3 114 "UmbrellaQueue$History" "depth" "I", Cond.fieldLink RX3 29 "UmbrellaQueue" "weather" "LUmbrellaQueue$Weather;", Cond.fieldLink RX3 231 "UmbrellaQueue$Weather" "length" "I", Cond.methodLink RX3 219 yX1_totalWetness, Cond.instanceMethod yX1_totalWetness, Cond.selects RX1 yX1_totalWetness yX1_totalWetness]
def wsL_holds_r2 : List Cond := [Cond.initialized RX1, Cond.code yX1_totalWetness cX1_totalWetness 3 (some .int), Cond.fieldLink RX1 39 "UmbrellaQueue$State" "size" "I", Cond.fieldLink RX1 15 "UmbrellaQueue$State" "wetness" "[I", Cond.methodLink RX3 222 yX1_wettest, Cond.instanceMethod yX1_wettest, Cond.selects RX1 yX1_wettest yX1_wettest, Cond.code yX1_wettest cX1_wettest 4 (some .int), Cond.methodLink RX3 225 yX1_placesUnreached, Cond.instanceMethod yX1_placesUnreached, Cond.selects RX1 yX1_placesUnreached yX1_placesUnreached, Cond.code yX1_placesUnreached cX1_placesUnreached 3 (some .int), Cond.methodLink RX1 142 yX1_umbrellasOver, Cond.instanceMethod yX1_umbrellasOver, Cond.selects RX1 yX1_umbrellasOver yX1_umbrellasOver, Cond.code yX1_umbrellasOver cX1_umbrellasOver 4 (some .int), Cond.fieldLink RX1 24 "UmbrellaQueue$State" "widths" "[I", Cond.methodLink RX1 136 yX1_leastReached, Cond.instanceMethod yX1_leastReached, Cond.selects RX1 yX1_leastReached yX1_leastReached, Cond.code yX1_leastReached cX1_leastReached 2 (some .int), Cond.methodLink RX1 112 Lib.Math.max.name, Cond.static Lib.Math.max.name, Cond.initialized "java/lang/Math"]
def wsL_holds_r3 : List Cond := [Cond.code Lib.Math.max.name Lib.Math.max.code 2 (some .int), Cond.methodLink RX1 139 yX1_greatestReached, Cond.instanceMethod yX1_greatestReached, Cond.selects RX1 yX1_greatestReached yX1_greatestReached, Cond.code yX1_greatestReached cX1_greatestReached 2 (some .int), Cond.methodLink RX1 133 Lib.Math.min.name, Cond.static Lib.Math.min.name, Cond.code Lib.Math.min.name Lib.Math.min.code 2 (some .int), Cond.static yX3_isWithin, Cond.code yX3_isWithin cX3_isWithin 3 (some .boolean), Cond.methodLink RL 52 yX3_person, Cond.instanceMethod yX3_person, Cond.selects RX3 yX3_person yX3_person, Cond.code yX3_person cX3_person 3 (some .int), Cond.fieldLink RX3 130 "UmbrellaQueue$State" "numbers" "[I", Cond.fieldLink RX3 133 "UmbrellaQueue$State" "wetness" "[I", Cond.fieldLink RX3 136 "UmbrellaQueue$State" "patience" "[I", Cond.fieldLink RX3 139 "UmbrellaQueue$State" "coins" "[I", Cond.fieldLink RX3 142 "UmbrellaQueue$State" "widths" "[I", Cond.fieldLink RX3 154 "UmbrellaQueue$State" "swapped" "[I", Cond.methodLink RX3 127 yX1_isPlace, Cond.instanceMethod yX1_isPlace, Cond.selects RX1 yX1_isPlace yX1_isPlace, Cond.code yX1_isPlace cX1_isPlace 2 (some .boolean)]
def wsL_holds_r4 : List Cond := [Cond.methodLink RX3 145 yX1_leastReached, Cond.methodLink RX3 148 yX1_greatestReached, Cond.methodLink RX3 151 yX1_umbrellasOver, Cond.methodLink RL 83 yL_isPerson, Cond.static yL_isPerson, Cond.initialized RL, Cond.code yL_isPerson cL_isPerson 12 (some .boolean), Cond.methodLink RL 60 yL_reaches, Cond.static yL_reaches, Cond.code yL_reaches cL_reaches 4 (some .boolean), Cond.methodLink RL 57 yX3_placeOf, Cond.instanceMethod yX3_placeOf, Cond.selects RX3 yX3_placeOf yX3_placeOf, Cond.code yX3_placeOf cX3_placeOf 3 (some .int), Cond.methodLink RX3 157 yX3_isWithin, Cond.methodLink RL 15 yL_low, Cond.static yL_low, Cond.code yL_low cL_low 2 (some .int), Cond.constant RL 8 (2147483647), Cond.methodLink RL 64 yX3_bears, Cond.instanceMethod yX3_bears, Cond.selects RX3 yX3_bears yX3_bears, Cond.code yX3_bears cX3_bears 3 (some .int), Cond.methodLink RX3 189 yX1_gustsBorne]
def wsL_holds_r5 : List Cond := [Cond.instanceMethod yX1_gustsBorne, Cond.selects RX1 yX1_gustsBorne yX1_gustsBorne, Cond.code yX1_gustsBorne cX1_gustsBorne 4 (some .int), Cond.fieldLink RX1 18 "UmbrellaQueue$State" "patience" "[I", Cond.methodLink RX1 145 yX1_wetterBy, Cond.instanceMethod yX1_wetterBy, Cond.selects RX1 yX1_wetterBy yX1_wetterBy, Cond.code yX1_wetterBy cX1_wetterBy 5 (some .int), Cond.methodLink RX1 148 yX1_umbrellasRunningOnto, Cond.instanceMethod yX1_umbrellasRunningOnto, Cond.selects RX1 yX1_umbrellasRunningOnto yX1_umbrellasRunningOnto, Cond.code yX1_umbrellasRunningOnto cX1_umbrellasRunningOnto 4 (some .int), Cond.methodLink RX1 151 yX1_isCovered, Cond.instanceMethod yX1_isCovered, Cond.selects RX1 yX1_isCovered yX1_isCovered, Cond.code yX1_isCovered cX1_isCovered 6 (some .boolean), Cond.methodLink RL 48 yX3_ifGust, Cond.instanceMethod yX3_ifGust, Cond.selects RX3 yX3_ifGust yX3_ifGust, Cond.code yX3_ifGust cX3_ifGust 5 (some .int), Cond.methodLink RX3 161 yX3_isGust, Cond.static yX3_isGust, Cond.code yX3_isGust cX3_isGust 2 (some .boolean), Cond.methodLink RX3 165 yX1_isCovered]
def wsL_holds_r6 : List Cond := [Cond.methodLink RX3 168 yX1_umbrellasRunningOnto, Cond.methodLink RX3 171 yX1_wetnessAfter, Cond.instanceMethod yX1_wetnessAfter, Cond.selects RX1 yX1_wetnessAfter yX1_wetnessAfter, Cond.code yX1_wetnessAfter cX1_wetnessAfter 4 (some .int), Cond.methodLink RL 67 yL_isGust, Cond.static yL_isGust, Cond.code yL_isGust cL_isGust 8 (some .boolean), Cond.methodLink RL 86 yX3_payer, Cond.instanceMethod yX3_payer, Cond.selects RX3 yX3_payer yX3_payer, Cond.code yX3_payer cX3_payer 3 (some .int), Cond.methodLink RX3 183 yX1_driestToServe, Cond.instanceMethod yX1_driestToServe, Cond.selects RX1 yX1_driestToServe yX1_driestToServe, Cond.code yX1_driestToServe cX1_driestToServe 4 (some .int), Cond.methodLink RX1 118 yX1_peopleToServe, Cond.instanceMethod yX1_peopleToServe, Cond.selects RX1 yX1_peopleToServe yX1_peopleToServe, Cond.code yX1_peopleToServe cX1_peopleToServe 1 (some .int), Cond.fieldLink RX1 30 "UmbrellaQueue$State" "settings" "[I", Cond.methodLink RX3 186 yX1_paidFrom, Cond.instanceMethod yX1_paidFrom, Cond.selects RX1 yX1_paidFrom yX1_paidFrom]
def wsL_holds_r7 : List Cond := [Cond.code yX1_paidFrom cX1_paidFrom 2 (some .int), Cond.fieldLink RX1 21 "UmbrellaQueue$State" "coins" "[I", Cond.methodLink RX1 127 yX1_fareForAll, Cond.instanceMethod yX1_fareForAll, Cond.selects RX1 yX1_fareForAll yX1_fareForAll, Cond.code yX1_fareForAll cX1_fareForAll 1 (some .int)]
def wsL_holds : List Cond := .code yL_holds cL_holds 10 (some .boolean) :: ((wsL_holds_r1 ++ (wsL_holds_r2 ++ (wsL_holds_r3 ++ (wsL_holds_r4 ++ (wsL_holds_r5 ++ (wsL_holds_r6 ++ wsL_holds_r7)))))) ++ wsX30 ++ wsX10 ++ wsX00 ++ wsX20)
def wsL_law_r1 : List Cond := [Cond.classLink RL 10 RX3, Cond.instantiable RX3 7, Cond.initialized RX3, Cond.methodLink RL 89 yX3_init, Cond.instanceMethod yX3_init, Cond.code yX3_init cX3_init 1 none, Cond.methodLink RX3 1 objectInit, Cond.instanceMethod objectInit, Cond.code objectInit ⟨#[0xb1]⟩ 1 none, Cond.classLink RX3 7 RX1, Cond.instantiable RX1 17, Cond.initialized RX1, Cond.fieldLink RX3 10 "UmbrellaQueue" "now" "LUmbrellaQueue$State;", Cond.fieldLink RX3 16 "UmbrellaQueue" "snapshot" "LUmbrellaQueue$State;", Cond.classLink RX3 19 RX0, Cond.instantiable RX0 2, Cond.initialized RX0, Cond.fieldLink RX3 22 "UmbrellaQueue" "history" "LUmbrellaQueue$History;", Cond.classLink RX3 26 RX2, Cond.instantiable RX2 7, Cond.initialized RX2, Cond.fieldLink RX3 29 "UmbrellaQueue" "weather" "LUmbrellaQueue$Weather;", Cond.fieldLink RX3 33 "UmbrellaQueue" "stopNumber" "I", Cond.fieldLink RX3 37 "UmbrellaQueue" "stopError" "I"]
def wsL_law_r2 : List Cond := [Cond.instanceMethod yX1_init, Cond.code yX1_init cX1_init 1 none, Cond.methodLink RX1 3 objectInit, Cond.arrayClass .int, Cond.fieldLink RX1 9 "UmbrellaQueue$State" "numbers" "[I", Cond.fieldLink RX1 15 "UmbrellaQueue$State" "wetness" "[I", Cond.fieldLink RX1 18 "UmbrellaQueue$State" "patience" "[I", Cond.fieldLink RX1 21 "UmbrellaQueue$State" "coins" "[I", Cond.fieldLink RX1 24 "UmbrellaQueue$State" "widths" "[I", Cond.fieldLink RX1 27 "UmbrellaQueue$State" "swapped" "[I", Cond.fieldLink RX1 30 "UmbrellaQueue$State" "settings" "[I", Cond.methodLink RX3 21 yX0_init, Cond.instanceMethod yX0_init, Cond.code yX0_init cX0_init 2 none, Cond.methodLink RX0 1 objectInit, Cond.classLink RX0 9 RX1, Cond.fieldLink RX0 11 "UmbrellaQueue$History" "states" "[LUmbrellaQueue$State;", Cond.instanceMethod yX2_init, Cond.code yX2_init cX2_init 1 none, Cond.methodLink RX2 3 objectInit, Cond.arrayClass .char, Cond.fieldLink RX2 11 "UmbrellaQueue$Weather" "text" "[C", Cond.fieldLink RX2 15 "UmbrellaQueue$Weather" "kinds" "[C", Cond.fieldLink RX2 18 "UmbrellaQueue$Weather" "amounts" "[I"]
def wsL_law_r3 : List Cond := [Cond.fieldLink RX2 22 "UmbrellaQueue$Weather" "sides" "[I", Cond.methodLink RL 90 yL_holds, Cond.static yL_holds, Cond.initialized RL, Cond.code yL_holds cL_holds 10 (some .boolean), Cond.methodLink RL 9 yX3_count, Cond.instanceMethod yX3_count, Cond.selects RX3 yX3_count yX3_count, Cond.code yX3_count cX3_count 2 (some .int), Cond.fieldLink RX3 124 "UmbrellaQueue$State" "size" "I", Cond.fieldLink RX3 192 "UmbrellaQueue$State" "came" "I", Cond.fieldLink RX3 195 "UmbrellaQueue$State" "left" "I", Cond.fieldLink RX3 198 "UmbrellaQueue$State" "soaked" "I", Cond.fieldLink RX3 201 "UmbrellaQueue$State" "served" "I", Cond.fieldLink RX3 204 "UmbrellaQueue$State" "paid" "I", Cond.fieldLink RX3 207 "UmbrellaQueue$State" "unpaid" "I", Cond.fieldLink RX3 210 "UmbrellaQueue$State" "swaps" "I", Cond.fieldLink RX3 213 "UmbrellaQueue$State" "gusts" "I", Cond.fieldLink RX3 216 "UmbrellaQueue$State" "minutes" "I", Cond.fieldLink RX3 228 "UmbrellaQueue$State" "settings" "[I", Cond.fieldLink RX3 114 "UmbrellaQueue$History" "depth" "I", Cond.fieldLink RX3 231 "UmbrellaQueue$Weather" "length" "I", Cond.methodLink RX3 219 yX1_totalWetness, Cond.instanceMethod yX1_totalWetness]
def wsL_law_r4 : List Cond := [Cond.selects RX1 yX1_totalWetness yX1_totalWetness, Cond.code yX1_totalWetness cX1_totalWetness 3 (some .int), Cond.fieldLink RX1 39 "UmbrellaQueue$State" "size" "I", Cond.methodLink RX3 222 yX1_wettest, Cond.instanceMethod yX1_wettest, Cond.selects RX1 yX1_wettest yX1_wettest, Cond.code yX1_wettest cX1_wettest 4 (some .int), Cond.methodLink RX3 225 yX1_placesUnreached, Cond.instanceMethod yX1_placesUnreached, Cond.selects RX1 yX1_placesUnreached yX1_placesUnreached, Cond.code yX1_placesUnreached cX1_placesUnreached 3 (some .int), Cond.methodLink RX1 142 yX1_umbrellasOver, Cond.instanceMethod yX1_umbrellasOver, Cond.selects RX1 yX1_umbrellasOver yX1_umbrellasOver, Cond.code yX1_umbrellasOver cX1_umbrellasOver 4 (some .int), Cond.methodLink RX1 136 yX1_leastReached, Cond.instanceMethod yX1_leastReached, Cond.selects RX1 yX1_leastReached yX1_leastReached, Cond.code yX1_leastReached cX1_leastReached 2 (some .int), Cond.methodLink RX1 112 Lib.Math.max.name, Cond.static Lib.Math.max.name, Cond.initialized "java/lang/Math", Cond.code Lib.Math.max.name Lib.Math.max.code 2 (some .int), Cond.methodLink RX1 139 yX1_greatestReached]
def wsL_law_r5 : List Cond := [Cond.instanceMethod yX1_greatestReached, Cond.selects RX1 yX1_greatestReached yX1_greatestReached, Cond.code yX1_greatestReached cX1_greatestReached 2 (some .int), Cond.methodLink RX1 133 Lib.Math.min.name, Cond.static Lib.Math.min.name, Cond.code Lib.Math.min.name Lib.Math.min.code 2 (some .int), Cond.static yX3_isWithin, Cond.code yX3_isWithin cX3_isWithin 3 (some .boolean), Cond.methodLink RL 52 yX3_person, Cond.instanceMethod yX3_person, Cond.selects RX3 yX3_person yX3_person, Cond.code yX3_person cX3_person 3 (some .int), Cond.fieldLink RX3 130 "UmbrellaQueue$State" "numbers" "[I", Cond.fieldLink RX3 133 "UmbrellaQueue$State" "wetness" "[I", Cond.fieldLink RX3 136 "UmbrellaQueue$State" "patience" "[I", Cond.fieldLink RX3 139 "UmbrellaQueue$State" "coins" "[I", Cond.fieldLink RX3 142 "UmbrellaQueue$State" "widths" "[I", Cond.fieldLink RX3 154 "UmbrellaQueue$State" "swapped" "[I", Cond.methodLink RX3 127 yX1_isPlace, Cond.instanceMethod yX1_isPlace, Cond.selects RX1 yX1_isPlace yX1_isPlace, Cond.code yX1_isPlace cX1_isPlace 2 (some .boolean), Cond.methodLink RX3 145 yX1_leastReached, Cond.methodLink RX3 148 yX1_greatestReached]
def wsL_law_r6 : List Cond := [Cond.methodLink RX3 151 yX1_umbrellasOver, Cond.methodLink RL 83 yL_isPerson, Cond.static yL_isPerson, Cond.code yL_isPerson cL_isPerson 12 (some .boolean), Cond.methodLink RL 60 yL_reaches, Cond.static yL_reaches, Cond.code yL_reaches cL_reaches 4 (some .boolean), Cond.methodLink RL 57 yX3_placeOf, Cond.instanceMethod yX3_placeOf, Cond.selects RX3 yX3_placeOf yX3_placeOf, Cond.code yX3_placeOf cX3_placeOf 3 (some .int), Cond.methodLink RX3 157 yX3_isWithin, Cond.methodLink RL 15 yL_low, Cond.static yL_low, Cond.code yL_low cL_low 2 (some .int), Cond.constant RL 8 (2147483647), Cond.methodLink RL 64 yX3_bears, Cond.instanceMethod yX3_bears, Cond.selects RX3 yX3_bears yX3_bears, Cond.code yX3_bears cX3_bears 3 (some .int), Cond.methodLink RX3 189 yX1_gustsBorne, Cond.instanceMethod yX1_gustsBorne, Cond.selects RX1 yX1_gustsBorne yX1_gustsBorne, Cond.code yX1_gustsBorne cX1_gustsBorne 4 (some .int)]
def wsL_law_r7 : List Cond := [Cond.methodLink RX1 145 yX1_wetterBy, Cond.instanceMethod yX1_wetterBy, Cond.selects RX1 yX1_wetterBy yX1_wetterBy, Cond.code yX1_wetterBy cX1_wetterBy 5 (some .int), Cond.methodLink RX1 148 yX1_umbrellasRunningOnto, Cond.instanceMethod yX1_umbrellasRunningOnto, Cond.selects RX1 yX1_umbrellasRunningOnto yX1_umbrellasRunningOnto, Cond.code yX1_umbrellasRunningOnto cX1_umbrellasRunningOnto 4 (some .int), Cond.methodLink RX1 151 yX1_isCovered, Cond.instanceMethod yX1_isCovered, Cond.selects RX1 yX1_isCovered yX1_isCovered, Cond.code yX1_isCovered cX1_isCovered 6 (some .boolean), Cond.methodLink RL 48 yX3_ifGust, Cond.instanceMethod yX3_ifGust, Cond.selects RX3 yX3_ifGust yX3_ifGust, Cond.code yX3_ifGust cX3_ifGust 5 (some .int), Cond.methodLink RX3 161 yX3_isGust, Cond.static yX3_isGust, Cond.code yX3_isGust cX3_isGust 2 (some .boolean), Cond.methodLink RX3 165 yX1_isCovered, Cond.methodLink RX3 168 yX1_umbrellasRunningOnto, Cond.methodLink RX3 171 yX1_wetnessAfter, Cond.instanceMethod yX1_wetnessAfter, Cond.selects RX1 yX1_wetnessAfter yX1_wetnessAfter]
def wsL_law_r8 : List Cond := [Cond.code yX1_wetnessAfter cX1_wetnessAfter 4 (some .int), Cond.methodLink RL 67 yL_isGust, Cond.static yL_isGust, Cond.code yL_isGust cL_isGust 8 (some .boolean), Cond.methodLink RL 86 yX3_payer, Cond.instanceMethod yX3_payer, Cond.selects RX3 yX3_payer yX3_payer, Cond.code yX3_payer cX3_payer 3 (some .int), Cond.methodLink RX3 183 yX1_driestToServe, Cond.instanceMethod yX1_driestToServe, Cond.selects RX1 yX1_driestToServe yX1_driestToServe, Cond.code yX1_driestToServe cX1_driestToServe 4 (some .int), Cond.methodLink RX1 118 yX1_peopleToServe, Cond.instanceMethod yX1_peopleToServe, Cond.selects RX1 yX1_peopleToServe yX1_peopleToServe, Cond.code yX1_peopleToServe cX1_peopleToServe 1 (some .int), Cond.methodLink RX3 186 yX1_paidFrom, Cond.instanceMethod yX1_paidFrom, Cond.selects RX1 yX1_paidFrom yX1_paidFrom, Cond.code yX1_paidFrom cX1_paidFrom 2 (some .int), Cond.methodLink RX1 127 yX1_fareForAll, Cond.instanceMethod yX1_fareForAll, Cond.selects RX1 yX1_fareForAll yX1_fareForAll, Cond.code yX1_fareForAll cX1_fareForAll 1 (some .int)]
def wsL_law_r9 : List Cond := [Cond.methodLink RL 80 yX3_undo, Cond.instanceMethod yX3_undo, Cond.selects RX3 yX3_undo yX3_undo, Cond.code yX3_undo cX3_undo 1 (some .int), Cond.methodLink RX3 117 yX0_takeLatest, Cond.instanceMethod yX0_takeLatest, Cond.selects RX0 yX0_takeLatest yX0_takeLatest, Cond.code yX0_takeLatest cX0_takeLatest 1 (some (.object "UmbrellaQueue$State")), Cond.fieldLink RX0 16 "UmbrellaQueue$History" "depth" "I", Cond.methodLink RX3 111 yX1_copyFrom, Cond.instanceMethod yX1_copyFrom, Cond.selects RX1 yX1_copyFrom yX1_copyFrom, Cond.code yX1_copyFrom cX1_copyFrom 2 none, Cond.methodLink RX1 33 arraycopyName, Cond.native arraycopyName, Cond.static arraycopyName, Cond.initialized "java/lang/System", Cond.fieldLink RX1 43 "UmbrellaQueue$State" "came" "I", Cond.fieldLink RX1 46 "UmbrellaQueue$State" "left" "I", Cond.fieldLink RX1 49 "UmbrellaQueue$State" "soaked" "I", Cond.fieldLink RX1 52 "UmbrellaQueue$State" "served" "I", Cond.fieldLink RX1 55 "UmbrellaQueue$State" "paid" "I", Cond.fieldLink RX1 58 "UmbrellaQueue$State" "unpaid" "I", Cond.fieldLink RX1 61 "UmbrellaQueue$State" "swaps" "I"]
def wsL_law_r10 : List Cond := [Cond.fieldLink RX1 64 "UmbrellaQueue$State" "gusts" "I", Cond.fieldLink RX1 67 "UmbrellaQueue$State" "minutes" "I", Cond.methodLink RL 94 yX3_restore, Cond.instanceMethod yX3_restore, Cond.selects RX3 yX3_restore yX3_restore, Cond.code yX3_restore cX3_restore 1 (some .int), Cond.fieldLink RX3 120 "UmbrellaQueue" "hasSnapshot" "Z", Cond.methodLink RX3 40 yX0_draft, Cond.instanceMethod yX0_draft, Cond.selects RX0 yX0_draft yX0_draft, Cond.code yX0_draft cX0_draft 2 none, Cond.methodLink RX0 20 yX0_drafted, Cond.instanceMethod yX0_drafted, Cond.selects RX0 yX0_drafted yX0_drafted, Cond.code yX0_drafted cX0_drafted 1 (some (.object "UmbrellaQueue$State")), Cond.methodLink RX0 24 yX1_copyFrom, Cond.methodLink RX3 48 yX3_recorded, Cond.instanceMethod yX3_recorded, Cond.selects RX3 yX3_recorded yX3_recorded, Cond.code yX3_recorded cX3_recorded 2 (some .int), Cond.methodLink RX3 234 yX0_keepDraft, Cond.instanceMethod yX0_keepDraft, Cond.selects RX0 yX0_keepDraft yX0_keepDraft, Cond.code yX0_keepDraft cX0_keepDraft 3 none]
def wsL_law_r11 : List Cond := [Cond.methodLink RL 97 yL_cell, Cond.static yL_cell, Cond.code yL_cell cL_cell 2 (some .int), Cond.constant RL 7 (40503), Cond.methodLink RL 101 yL_act, Cond.static yL_act, Cond.code yL_act cL_act 5 (some .int), Cond.methodLink RL 21 yX3_come, Cond.instanceMethod yX3_come, Cond.selects RX3 yX3_come yX3_come, Cond.code yX3_come cX3_come 4 (some .int), Cond.methodLink RX3 44 yX1_admit, Cond.instanceMethod yX1_admit, Cond.selects RX1 yX1_admit yX1_admit, Cond.code yX1_admit cX1_admit 5 (some .int), Cond.methodLink RL 25 yX3_leave, Cond.instanceMethod yX3_leave, Cond.selects RX3 yX3_leave yX3_leave, Cond.code yX3_leave cX3_leave 2 (some .int), Cond.methodLink RX3 52 yX1_dismiss, Cond.instanceMethod yX1_dismiss, Cond.selects RX1 yX1_dismiss yX1_dismiss, Cond.code yX1_dismiss cX1_dismiss 3 (some .int), Cond.methodLink RX1 74 yX1_isPlace]
def wsL_law_r12 : List Cond := [Cond.methodLink RX1 78 yX1_remove, Cond.instanceMethod yX1_remove, Cond.selects RX1 yX1_remove yX1_remove, Cond.code yX1_remove cX1_remove 2 none, Cond.methodLink RX1 130 yX1_closeGap, Cond.static yX1_closeGap, Cond.code yX1_closeGap cX1_closeGap 2 none, Cond.methodLink RL 28 yX3_letAhead, Cond.instanceMethod yX3_letAhead, Cond.selects RX3 yX3_letAhead yX3_letAhead, Cond.code yX3_letAhead cX3_letAhead 2 (some .int), Cond.methodLink RX3 55 yX1_changePlaces, Cond.instanceMethod yX1_changePlaces, Cond.selects RX1 yX1_changePlaces yX1_changePlaces, Cond.code yX1_changePlaces cX1_changePlaces 2 (some .int), Cond.methodLink RX1 82 yX1_hasNeighbour, Cond.instanceMethod yX1_hasNeighbour, Cond.selects RX1 yX1_hasNeighbour yX1_hasNeighbour, Cond.code yX1_hasNeighbour cX1_hasNeighbour 2 (some .boolean), Cond.methodLink RX1 85 yX1_exchange, Cond.static yX1_exchange, Cond.code yX1_exchange cX1_exchange 3 none, Cond.methodLink RL 31 yX3_swap, Cond.instanceMethod yX3_swap]
def wsL_law_r13 : List Cond := [Cond.selects RX3 yX3_swap yX3_swap, Cond.code yX3_swap cX3_swap 2 (some .int), Cond.methodLink RX3 58 yX1_swapUmbrellas, Cond.instanceMethod yX1_swapUmbrellas, Cond.selects RX1 yX1_swapUmbrellas yX1_swapUmbrellas, Cond.code yX1_swapUmbrellas cX1_swapUmbrellas 3 (some .int), Cond.methodLink RX1 89 yX1_refusal, Cond.instanceMethod yX1_refusal, Cond.selects RX1 yX1_refusal yX1_refusal, Cond.code yX1_refusal cX1_refusal 7 (some .int), Cond.methodLink RL 34 yX3_set, Cond.instanceMethod yX3_set, Cond.selects RX3 yX3_set yX3_set, Cond.code yX3_set cX3_set 3 (some .int), Cond.methodLink RX3 61 yX1_changeSetting, Cond.instanceMethod yX1_changeSetting, Cond.selects RX1 yX1_changeSetting yX1_changeSetting, Cond.code yX1_changeSetting cX1_changeSetting 4 (some .int), Cond.methodLink RL 37 yX3_serve, Cond.instanceMethod yX3_serve, Cond.selects RX3 yX3_serve yX3_serve, Cond.code yX3_serve cX3_serve 1 (some .int), Cond.methodLink RX3 71 yX1_serveFirst, Cond.instanceMethod yX1_serveFirst]
def wsL_law_r14 : List Cond := [Cond.selects RX1 yX1_serveFirst yX1_serveFirst, Cond.code yX1_serveFirst cX1_serveFirst 4 (some .int), Cond.methodLink RX1 121 yX1_driestToServe, Cond.methodLink RX1 124 yX1_paidFrom, Cond.methodLink RL 41 yX3_pass, Cond.instanceMethod yX3_pass, Cond.selects RX3 yX3_pass yX3_pass, Cond.code yX3_pass cX3_pass 2 (some .int), Cond.methodLink RX3 68 yX1_dry, Cond.instanceMethod yX1_dry, Cond.selects RX1 yX1_dry yX1_dry, Cond.code yX1_dry cX1_dry 4 (some .int), Cond.constant RX1 111 (99999), Cond.methodLink RL 44 yL_gust, Cond.static yL_gust, Cond.code yL_gust cL_gust 12 (some .int), Cond.methodLink RL 55 yX3_gust, Cond.instanceMethod yX3_gust, Cond.selects RX3 yX3_gust yX3_gust, Cond.code yX3_gust cX3_gust 3 (some .int), Cond.methodLink RX3 65 yX1_rain, Cond.instanceMethod yX1_rain, Cond.selects RX1 yX1_rain yX1_rain, Cond.code yX1_rain cX1_rain 4 (some .int)]
def wsL_law_r15 : List Cond := [Cond.methodLink RX1 103 yX1_wetnessAfter, Cond.methodLink RX1 107 yX1_removeSoaked, Cond.instanceMethod yX1_removeSoaked, Cond.selects RX1 yX1_removeSoaked yX1_removeSoaked, Cond.code yX1_removeSoaked cX1_removeSoaked 3 (some .int), Cond.methodLink RL 105 yL_isBest, Cond.static yL_isBest, Cond.code yL_isBest cL_isBest 11 (some .boolean), Cond.methodLink RL 71 yX3_bestSwap, Cond.instanceMethod yX3_bestSwap, Cond.selects RX3 yX3_bestSwap yX3_bestSwap, Cond.code yX3_bestSwap cX3_bestSwap 3 (some .int), Cond.methodLink RX3 180 yX1_driestSwap, Cond.instanceMethod yX1_driestSwap, Cond.selects RX1 yX1_driestSwap yX1_driestSwap, Cond.code yX1_driestSwap cX1_driestSwap 7 (some .int), Cond.methodLink RX1 154 yX1_totalWetnessAfter, Cond.instanceMethod yX1_totalWetnessAfter, Cond.selects RX1 yX1_totalWetnessAfter yX1_totalWetnessAfter, Cond.code yX1_totalWetnessAfter cX1_totalWetnessAfter 5 (some .int), Cond.methodLink RL 74 yL_all, Cond.static yL_all, Cond.code yL_all cL_all 5 (some .int), Cond.methodLink RL 77 yX3_reason]
def wsL_law_r16 : List Cond := [Cond.instanceMethod yX3_reason, Cond.selects RX3 yX3_reason yX3_reason, Cond.code yX3_reason cX3_reason 2 (some .int), Cond.methodLink RX3 174 yX1_hasNeighbour, Cond.methodLink RX3 177 yX1_refusal]
def wsL_law : List Cond := (wsL_law_r1 ++ (wsL_law_r2 ++ (wsL_law_r3 ++ (wsL_law_r4 ++ (wsL_law_r5 ++ (wsL_law_r6 ++ (wsL_law_r7 ++ (wsL_law_r8 ++ (wsL_law_r9 ++ (wsL_law_r10 ++ (wsL_law_r11 ++ (wsL_law_r12 ++ (wsL_law_r13 ++ (wsL_law_r14 ++ (wsL_law_r15 ++ wsL_law_r16))))))))))))))) ++ wsX30 ++ wsX10 ++ wsX00 ++ wsX20 ++ ([] : List Cond)
set_option maxRecDepth 20000 in
theorem wsL_in_r1 : ∀ w ∈ wsL_law_r1, w ∈ lw_tbl := fun w h => (goodIn_p wsL_law_r1 [18, 21] (by decide +kernel) (by decide +kernel) w h).1
set_option maxRecDepth 20000 in
theorem wsL_in_r2 : ∀ w ∈ wsL_law_r2, w ∈ lw_tbl := fun w h => (goodIn_p wsL_law_r2 [26, 102, 119] (by decide +kernel) (by decide +kernel) w h).1
set_option maxRecDepth 20000 in
theorem wsL_in_r3 : ∀ w ∈ wsL_law_r3, w ∈ lw_tbl := fun w h => (goodIn_p wsL_law_r3 [434, 229] (by decide +kernel) (by decide +kernel) w h).1
set_option maxRecDepth 20000 in
theorem wsL_in_r4 : ∀ w ∈ wsL_law_r4, w ∈ lw_tbl := fun w h => (goodIn_p wsL_law_r4 [233, 237, 241, 245, 249, 252] (by decide +kernel) (by decide +kernel) w h).1
set_option maxRecDepth 20000 in
theorem wsL_in_r5 : ∀ w ∈ wsL_law_r5, w ∈ lw_tbl := fun w h => (goodIn_p wsL_law_r5 [256, 217, 206, 386, 288] (by decide +kernel) (by decide +kernel) w h).1
set_option maxRecDepth 20000 in
theorem wsL_in_r6 : ∀ w ∈ wsL_law_r6, w ∈ lw_tbl := fun w h => (goodIn_p wsL_law_r6 [437, 440, 407, 264, 444, 448] (by decide +kernel) (by decide +kernel) w h).1
set_option maxRecDepth 20000 in
theorem wsL_in_r7 : ∀ w ∈ wsL_law_r7, w ∈ lw_tbl := fun w h => (goodIn_p wsL_law_r7 [380, 372, 368, 360, 364] (by decide +kernel) (by decide +kernel) w h).1
set_option maxRecDepth 20000 in
theorem wsL_in_r8 : ∀ w ∈ wsL_law_r8, w ∈ lw_tbl := fun w h => (goodIn_p wsL_law_r8 [376, 451, 203, 210, 214, 221, 225] (by decide +kernel) (by decide +kernel) w h).1
set_option maxRecDepth 20000 in
theorem wsL_in_r9 : ∀ w ∈ wsL_law_r9, w ∈ lw_tbl := fun w h => (goodIn_p wsL_law_r9 [167, 171, 175] (by decide +kernel) (by decide +kernel) w h).1
set_option maxRecDepth 20000 in
theorem wsL_in_r10 : ∀ w ∈ wsL_law_r10, w ∈ lw_tbl := fun w h => (goodIn_p wsL_law_r10 [182, 186, 190, 195, 199] (by decide +kernel) (by decide +kernel) w h).1
set_option maxRecDepth 20000 in
theorem wsL_in_r11 : ∀ w ∈ wsL_law_r11, w ∈ lw_tbl := fun w h => (goodIn_p wsL_law_r11 [260, 268, 272, 276, 280, 284] (by decide +kernel) (by decide +kernel) w h).1
set_option maxRecDepth 20000 in
theorem wsL_in_r12 : ∀ w ∈ wsL_law_r12, w ∈ lw_tbl := fun w h => (goodIn_p wsL_law_r12 [292, 295, 299, 303, 307, 310] (by decide +kernel) (by decide +kernel) w h).1
set_option maxRecDepth 20000 in
theorem wsL_in_r13 : ∀ w ∈ wsL_law_r13, w ∈ lw_tbl := fun w h => (goodIn_p wsL_law_r13 [314, 318, 322, 326, 330, 338] (by decide +kernel) (by decide +kernel) w h).1
set_option maxRecDepth 20000 in
theorem wsL_in_r14 : ∀ w ∈ wsL_law_r14, w ∈ lw_tbl := fun w h => (goodIn_p wsL_law_r14 [342, 348, 352, 356, 393, 397] (by decide +kernel) (by decide +kernel) w h).1
set_option maxRecDepth 20000 in
theorem wsL_in_r15 : ∀ w ∈ wsL_law_r15, w ∈ lw_tbl := fun w h => (goodIn_p wsL_law_r15 [403, 410, 414, 418, 422, 425] (by decide +kernel) (by decide +kernel) w h).1
set_option maxRecDepth 20000 in
theorem wsL_in_r16 : ∀ w ∈ wsL_law_r16, w ∈ lw_tbl := fun w h => (goodIn_p wsL_law_r16 [429] (by decide +kernel) (by decide +kernel) w h).1
set_option maxRecDepth 20000 in
theorem wsL_in_wsX30 : ∀ w ∈ wsX30, w ∈ lw_tbl := fun w h => (goodIn_p wsX30 [] (by decide +kernel) (by decide +kernel) w h).1
set_option maxRecDepth 20000 in
theorem wsL_in_wsX10 : ∀ w ∈ wsX10, w ∈ lw_tbl := fun w h => (goodIn_p wsX10 [] (by decide +kernel) (by decide +kernel) w h).1
set_option maxRecDepth 20000 in
theorem wsL_in_wsX00 : ∀ w ∈ wsX00, w ∈ lw_tbl := fun w h => (goodIn_p wsX00 [] (by decide +kernel) (by decide +kernel) w h).1
set_option maxRecDepth 20000 in
theorem wsL_in_wsX20 : ∀ w ∈ wsX20, w ∈ lw_tbl := fun w h => (goodIn_p wsX20 [] (by decide +kernel) (by decide +kernel) w h).1
theorem wsL_law_in : ∀ w ∈ wsL_law, w ∈ lw_tbl := List.forall_mem_append.mpr ⟨List.forall_mem_append.mpr ⟨List.forall_mem_append.mpr ⟨List.forall_mem_append.mpr ⟨List.forall_mem_append.mpr ⟨List.forall_mem_append.mpr ⟨wsL_in_r1, List.forall_mem_append.mpr ⟨wsL_in_r2, List.forall_mem_append.mpr ⟨wsL_in_r3, List.forall_mem_append.mpr ⟨wsL_in_r4, List.forall_mem_append.mpr ⟨wsL_in_r5, List.forall_mem_append.mpr ⟨wsL_in_r6, List.forall_mem_append.mpr ⟨wsL_in_r7, List.forall_mem_append.mpr ⟨wsL_in_r8, List.forall_mem_append.mpr ⟨wsL_in_r9, List.forall_mem_append.mpr ⟨wsL_in_r10, List.forall_mem_append.mpr ⟨wsL_in_r11, List.forall_mem_append.mpr ⟨wsL_in_r12, List.forall_mem_append.mpr ⟨wsL_in_r13, List.forall_mem_append.mpr ⟨wsL_in_r14, List.forall_mem_append.mpr ⟨wsL_in_r15, wsL_in_r16⟩⟩⟩⟩⟩⟩⟩⟩⟩⟩⟩⟩⟩⟩⟩, wsL_in_wsX30⟩, wsL_in_wsX10⟩, wsL_in_wsX00⟩, wsL_in_wsX20⟩, fun _ h => absurd h List.not_mem_nil⟩
theorem inlX0 : ∀ w ∈ wsX00, w ∈ wsL_law := fun _ h => List.mem_append_left _ (List.mem_append_left _ (List.mem_append_right _ h))
theorem inX0 : ∀ w ∈ wsX00, w ∈ lw_tbl := fun w h => wsL_law_in w (inlX0 w h)
theorem inlX1 : ∀ w ∈ wsX10, w ∈ wsL_law := fun _ h => List.mem_append_left _ (List.mem_append_left _ (List.mem_append_left _ (List.mem_append_right _ h)))
theorem inX1 : ∀ w ∈ wsX10, w ∈ lw_tbl := fun w h => wsL_law_in w (inlX1 w h)
theorem inlX2 : ∀ w ∈ wsX20, w ∈ wsL_law := fun _ h => List.mem_append_left _ (List.mem_append_right _ h)
theorem inX2 : ∀ w ∈ wsX20, w ∈ lw_tbl := fun w h => wsL_law_in w (inlX2 w h)
theorem inlX3 : ∀ w ∈ wsX30, w ∈ wsL_law := fun _ h => List.mem_append_left _ (List.mem_append_left _ (List.mem_append_left _ (List.mem_append_left _ (List.mem_append_right _ h))))
theorem inX3 : ∀ w ∈ wsX30, w ∈ lw_tbl := fun w h => wsL_law_in w (inlX3 w h)
theorem inX4 : ∀ w ∈ wsX40, w ∈ lw_tbl := fun w h => (goodIn_p wsX40 [] (by decide +kernel) (by decide +kernel) w h).1
theorem inJ9 : ∀ w ∈ wsJ90, w ∈ lw_tbl := fun w h => (goodIn_p wsJ90 [] (by decide +kernel) (by decide +kernel) w h).1
theorem inJ10 : ∀ w ∈ wsJ100, w ∈ lw_tbl := fun w h => (goodIn_p wsJ100 [] (by decide +kernel) (by decide +kernel) w h).1
abbrev vwCl : List vw_C := [(RX0, TX0, 2), (RX1, TX1, 17), (RX2, TX2, 7), (RX3, TX3, 7)]
end
section
set_option maxRecDepth 20000 in
theorem ggX0_init_X1_init : GoodIn wsX0_init wsX1_init := goodIn_r _ [9, 10, 2, 3, 11, 12, 13, 14, 15, 16, 17, 18, 21, 22, 23, 24, 25, 26, 27, 28, 29, 30, 31, 32, 33, 34, 35, 36, 37] (by decide +kernel) (by decide +kernel)
set_option maxRecDepth 20000 in
theorem gX0_init_X1_init_n15 : GoodIn wsX0_init (wsX1_init) := ggX0_init_X1_init
theorem dX0_init_0 : decode cX0_init 0 = .ok (.aload_n 0, 1) := by decide +kernel
theorem dX0_init_1 : decode cX0_init 1 = .ok (.invokespecial 1, 3) := by decide +kernel
theorem dX0_init_4 : decode cX0_init 4 = .ok (.aload_n 0, 1) := by decide +kernel
theorem dX0_init_5 : decode cX0_init 5 = .ok (.iconst 5, 1) := by decide +kernel
theorem dX0_init_6 : decode cX0_init 6 = .ok (.anewarray 9, 3) := by decide +kernel
theorem dX0_init_9 : decode cX0_init 9 = .ok (.putfield 11, 3) := by decide +kernel
theorem dX0_init_12 : decode cX0_init 12 = .ok (.iconst 0, 1) := by decide +kernel
theorem dX0_init_13 : decode cX0_init 13 = .ok (.istore_n 1, 1) := by decide +kernel
theorem dX0_init_14 : decode cX0_init 14 = .ok (.iload_n 1, 1) := by decide +kernel
theorem dX0_init_15 : decode cX0_init 15 = .ok (.aload_n 0, 1) := by decide +kernel
theorem dX0_init_16 : decode cX0_init 16 = .ok (.getfield 11, 3) := by decide +kernel
theorem dX0_init_19 : decode cX0_init 19 = .ok (.arraylength, 1) := by decide +kernel
theorem dX0_init_20 : decode cX0_init 20 = .ok (.if_icmp .ge 22, 3) := by decide +kernel
theorem dX0_init_23 : decode cX0_init 23 = .ok (.aload_n 0, 1) := by decide +kernel
theorem dX0_init_24 : decode cX0_init 24 = .ok (.getfield 11, 3) := by decide +kernel
theorem dX0_init_27 : decode cX0_init 27 = .ok (.iload_n 1, 1) := by decide +kernel
theorem dX0_init_28 : decode cX0_init 28 = .ok (.new 9, 3) := by decide +kernel
theorem dX0_init_31 : decode cX0_init 31 = .ok (.dup, 1) := by decide +kernel
theorem dX0_init_32 : decode cX0_init 32 = .ok (.invokespecial 15, 3) := by decide +kernel
theorem dX0_init_35 : decode cX0_init 35 = .ok (.aastore, 1) := by decide +kernel
theorem dX0_init_36 : decode cX0_init 36 = .ok (.iinc 1 1, 3) := by decide +kernel
theorem dX0_init_39 : decode cX0_init 39 = .ok (.goto (-25), 3) := by decide +kernel
theorem dX0_init_42 : decode cX0_init 42 = .ok (.return_, 1) := by decide +kernel
theorem dX0_drafted_0 : decode cX0_drafted 0 = .ok (.aload_n 0, 1) := by decide +kernel
theorem dX0_drafted_1 : decode cX0_drafted 1 = .ok (.getfield 11, 3) := by decide +kernel
theorem dX0_drafted_4 : decode cX0_drafted 4 = .ok (.aload_n 0, 1) := by decide +kernel
theorem dX0_drafted_5 : decode cX0_drafted 5 = .ok (.getfield 16, 3) := by decide +kernel
theorem dX0_drafted_8 : decode cX0_drafted 8 = .ok (.aaload, 1) := by decide +kernel
theorem dX0_drafted_9 : decode cX0_drafted 9 = .ok (.areturn, 1) := by decide +kernel
set_option maxRecDepth 20000 in
theorem ggX0_draft_X0_drafted : GoodIn wsX0_draft wsX0_drafted := goodIn_r _ [5, 6, 7, 34, 35] (by decide +kernel) (by decide +kernel)
set_option maxRecDepth 20000 in
theorem gX0_draft_X0_drafted : GoodIn wsX0_draft (wsV RX0 20 RX0 yX0_drafted wsX0_drafted) := goodIn_app (goodIn_of _ (by decide +kernel)) ggX0_draft_X0_drafted
set_option maxRecDepth 20000 in
theorem ggX0_draft_X1_copyFrom : GoodIn wsX0_draft wsX1_copyFrom := goodIn_r _ [12, 13, 14, 15, 16, 17, 18, 19, 20, 21, 22, 23, 24, 25, 26, 27, 28, 29, 30, 31, 32, 33, 36, 37, 38, 39, 40, 41, 42, 43, 44, 45, 46, 47, 48, 49, 50, 51, 52] (by decide +kernel) (by decide +kernel)
set_option maxRecDepth 20000 in
theorem gX0_draft_X1_copyFrom : GoodIn wsX0_draft (wsV RX0 24 RX1 yX1_copyFrom wsX1_copyFrom) := goodIn_app (goodIn_of _ (by decide +kernel)) ggX0_draft_X1_copyFrom
theorem dX0_draft_0 : decode cX0_draft 0 = .ok (.aload_n 0, 1) := by decide +kernel
theorem dX0_draft_1 : decode cX0_draft 1 = .ok (.invokevirtual 20, 3) := by decide +kernel
theorem dX0_draft_4 : decode cX0_draft 4 = .ok (.aload_n 1, 1) := by decide +kernel
theorem dX0_draft_5 : decode cX0_draft 5 = .ok (.invokevirtual 24, 3) := by decide +kernel
theorem dX0_draft_8 : decode cX0_draft 8 = .ok (.return_, 1) := by decide +kernel
theorem dX0_keepDraft_0 : decode cX0_keepDraft 0 = .ok (.aload_n 0, 1) := by decide +kernel
theorem dX0_keepDraft_1 : decode cX0_keepDraft 1 = .ok (.getfield 16, 3) := by decide +kernel
theorem dX0_keepDraft_4 : decode cX0_keepDraft 4 = .ok (.iconst 4, 1) := by decide +kernel
theorem dX0_keepDraft_5 : decode cX0_keepDraft 5 = .ok (.if_icmp .ge 14, 3) := by decide +kernel
theorem dX0_keepDraft_8 : decode cX0_keepDraft 8 = .ok (.aload_n 0, 1) := by decide +kernel
theorem dX0_keepDraft_9 : decode cX0_keepDraft 9 = .ok (.dup, 1) := by decide +kernel
theorem dX0_keepDraft_10 : decode cX0_keepDraft 10 = .ok (.getfield 16, 3) := by decide +kernel
theorem dX0_keepDraft_13 : decode cX0_keepDraft 13 = .ok (.iconst 1, 1) := by decide +kernel
theorem dX0_keepDraft_14 : decode cX0_keepDraft 14 = .ok (.iadd, 1) := by decide +kernel
theorem dX0_keepDraft_15 : decode cX0_keepDraft 15 = .ok (.putfield 16, 3) := by decide +kernel
theorem dX0_keepDraft_18 : decode cX0_keepDraft 18 = .ok (.return_, 1) := by decide +kernel
theorem dX0_keepDraft_19 : decode cX0_keepDraft 19 = .ok (.aload_n 0, 1) := by decide +kernel
theorem dX0_keepDraft_20 : decode cX0_keepDraft 20 = .ok (.getfield 11, 3) := by decide +kernel
theorem dX0_keepDraft_23 : decode cX0_keepDraft 23 = .ok (.iconst 0, 1) := by decide +kernel
theorem dX0_keepDraft_24 : decode cX0_keepDraft 24 = .ok (.aaload, 1) := by decide +kernel
theorem dX0_keepDraft_25 : decode cX0_keepDraft 25 = .ok (.astore_n 1, 1) := by decide +kernel
theorem dX0_keepDraft_26 : decode cX0_keepDraft 26 = .ok (.iconst 0, 1) := by decide +kernel
theorem dX0_keepDraft_27 : decode cX0_keepDraft 27 = .ok (.istore_n 2, 1) := by decide +kernel
theorem dX0_keepDraft_28 : decode cX0_keepDraft 28 = .ok (.iload_n 2, 1) := by decide +kernel
theorem dX0_keepDraft_29 : decode cX0_keepDraft 29 = .ok (.iconst 4, 1) := by decide +kernel
theorem dX0_keepDraft_30 : decode cX0_keepDraft 30 = .ok (.if_icmp .ge 23, 3) := by decide +kernel
theorem dX0_keepDraft_33 : decode cX0_keepDraft 33 = .ok (.aload_n 0, 1) := by decide +kernel
theorem dX0_keepDraft_34 : decode cX0_keepDraft 34 = .ok (.getfield 11, 3) := by decide +kernel
theorem dX0_keepDraft_37 : decode cX0_keepDraft 37 = .ok (.iload_n 2, 1) := by decide +kernel
theorem dX0_keepDraft_38 : decode cX0_keepDraft 38 = .ok (.aload_n 0, 1) := by decide +kernel
theorem dX0_keepDraft_39 : decode cX0_keepDraft 39 = .ok (.getfield 11, 3) := by decide +kernel
theorem dX0_keepDraft_42 : decode cX0_keepDraft 42 = .ok (.iload_n 2, 1) := by decide +kernel
theorem dX0_keepDraft_43 : decode cX0_keepDraft 43 = .ok (.iconst 1, 1) := by decide +kernel
theorem dX0_keepDraft_44 : decode cX0_keepDraft 44 = .ok (.iadd, 1) := by decide +kernel
theorem dX0_keepDraft_45 : decode cX0_keepDraft 45 = .ok (.aaload, 1) := by decide +kernel
theorem dX0_keepDraft_46 : decode cX0_keepDraft 46 = .ok (.aastore, 1) := by decide +kernel
theorem dX0_keepDraft_47 : decode cX0_keepDraft 47 = .ok (.iinc 2 1, 3) := by decide +kernel
theorem dX0_keepDraft_50 : decode cX0_keepDraft 50 = .ok (.goto (-22), 3) := by decide +kernel
theorem dX0_keepDraft_53 : decode cX0_keepDraft 53 = .ok (.aload_n 0, 1) := by decide +kernel
theorem dX0_keepDraft_54 : decode cX0_keepDraft 54 = .ok (.getfield 11, 3) := by decide +kernel
theorem dX0_keepDraft_57 : decode cX0_keepDraft 57 = .ok (.iconst 4, 1) := by decide +kernel
theorem dX0_keepDraft_58 : decode cX0_keepDraft 58 = .ok (.aload_n 1, 1) := by decide +kernel
theorem dX0_keepDraft_59 : decode cX0_keepDraft 59 = .ok (.aastore, 1) := by decide +kernel
theorem dX0_keepDraft_60 : decode cX0_keepDraft 60 = .ok (.return_, 1) := by decide +kernel
theorem dX0_takeLatest_0 : decode cX0_takeLatest 0 = .ok (.aload_n 0, 1) := by decide +kernel
theorem dX0_takeLatest_1 : decode cX0_takeLatest 1 = .ok (.dup, 1) := by decide +kernel
theorem dX0_takeLatest_2 : decode cX0_takeLatest 2 = .ok (.getfield 16, 3) := by decide +kernel
theorem dX0_takeLatest_5 : decode cX0_takeLatest 5 = .ok (.iconst 1, 1) := by decide +kernel
theorem dX0_takeLatest_6 : decode cX0_takeLatest 6 = .ok (.isub, 1) := by decide +kernel
theorem dX0_takeLatest_7 : decode cX0_takeLatest 7 = .ok (.putfield 16, 3) := by decide +kernel
theorem dX0_takeLatest_10 : decode cX0_takeLatest 10 = .ok (.aload_n 0, 1) := by decide +kernel
theorem dX0_takeLatest_11 : decode cX0_takeLatest 11 = .ok (.getfield 11, 3) := by decide +kernel
theorem dX0_takeLatest_14 : decode cX0_takeLatest 14 = .ok (.aload_n 0, 1) := by decide +kernel
theorem dX0_takeLatest_15 : decode cX0_takeLatest 15 = .ok (.getfield 16, 3) := by decide +kernel
theorem dX0_takeLatest_18 : decode cX0_takeLatest 18 = .ok (.aaload, 1) := by decide +kernel
theorem dX0_takeLatest_19 : decode cX0_takeLatest 19 = .ok (.areturn, 1) := by decide +kernel
theorem dX1_init_0 : decode cX1_init 0 = .ok (.aload_n 0, 1) := by decide +kernel
theorem dX1_init_1 : decode cX1_init 1 = .ok (.invokespecial 3, 3) := by decide +kernel
theorem dX1_init_4 : decode cX1_init 4 = .ok (.aload_n 0, 1) := by decide +kernel
theorem dX1_init_5 : decode cX1_init 5 = .ok (.bipush 16, 2) := by decide +kernel
theorem dX1_init_7 : decode cX1_init 7 = .ok (.newarray .int, 2) := by decide +kernel
theorem dX1_init_9 : decode cX1_init 9 = .ok (.putfield 9, 3) := by decide +kernel
theorem dX1_init_12 : decode cX1_init 12 = .ok (.aload_n 0, 1) := by decide +kernel
theorem dX1_init_13 : decode cX1_init 13 = .ok (.bipush 16, 2) := by decide +kernel
theorem dX1_init_15 : decode cX1_init 15 = .ok (.newarray .int, 2) := by decide +kernel
theorem dX1_init_17 : decode cX1_init 17 = .ok (.putfield 15, 3) := by decide +kernel
theorem dX1_init_20 : decode cX1_init 20 = .ok (.aload_n 0, 1) := by decide +kernel
theorem dX1_init_21 : decode cX1_init 21 = .ok (.bipush 16, 2) := by decide +kernel
theorem dX1_init_23 : decode cX1_init 23 = .ok (.newarray .int, 2) := by decide +kernel
theorem dX1_init_25 : decode cX1_init 25 = .ok (.putfield 18, 3) := by decide +kernel
theorem dX1_init_28 : decode cX1_init 28 = .ok (.aload_n 0, 1) := by decide +kernel
theorem dX1_init_29 : decode cX1_init 29 = .ok (.bipush 16, 2) := by decide +kernel
theorem dX1_init_31 : decode cX1_init 31 = .ok (.newarray .int, 2) := by decide +kernel
theorem dX1_init_33 : decode cX1_init 33 = .ok (.putfield 21, 3) := by decide +kernel
theorem dX1_init_36 : decode cX1_init 36 = .ok (.aload_n 0, 1) := by decide +kernel
theorem dX1_init_37 : decode cX1_init 37 = .ok (.bipush 16, 2) := by decide +kernel
theorem dX1_init_39 : decode cX1_init 39 = .ok (.newarray .int, 2) := by decide +kernel
theorem dX1_init_41 : decode cX1_init 41 = .ok (.putfield 24, 3) := by decide +kernel
theorem dX1_init_44 : decode cX1_init 44 = .ok (.aload_n 0, 1) := by decide +kernel
theorem dX1_init_45 : decode cX1_init 45 = .ok (.bipush 16, 2) := by decide +kernel
theorem dX1_init_47 : decode cX1_init 47 = .ok (.newarray .int, 2) := by decide +kernel
theorem dX1_init_49 : decode cX1_init 49 = .ok (.putfield 27, 3) := by decide +kernel
theorem dX1_init_52 : decode cX1_init 52 = .ok (.aload_n 0, 1) := by decide +kernel
theorem dX1_init_53 : decode cX1_init 53 = .ok (.iconst 3, 1) := by decide +kernel
theorem dX1_init_54 : decode cX1_init 54 = .ok (.newarray .int, 2) := by decide +kernel
theorem dX1_init_56 : decode cX1_init 56 = .ok (.dup, 1) := by decide +kernel
theorem dX1_init_57 : decode cX1_init 57 = .ok (.iconst 0, 1) := by decide +kernel
theorem dX1_init_58 : decode cX1_init 58 = .ok (.iconst 3, 1) := by decide +kernel
theorem dX1_init_59 : decode cX1_init 59 = .ok (.iastore, 1) := by decide +kernel
theorem dX1_init_60 : decode cX1_init 60 = .ok (.dup, 1) := by decide +kernel
theorem dX1_init_61 : decode cX1_init 61 = .ok (.iconst 1, 1) := by decide +kernel
theorem dX1_init_62 : decode cX1_init 62 = .ok (.iconst 2, 1) := by decide +kernel
theorem dX1_init_63 : decode cX1_init 63 = .ok (.iastore, 1) := by decide +kernel
theorem dX1_init_64 : decode cX1_init 64 = .ok (.dup, 1) := by decide +kernel
theorem dX1_init_65 : decode cX1_init 65 = .ok (.iconst 2, 1) := by decide +kernel
theorem dX1_init_66 : decode cX1_init 66 = .ok (.iconst 5, 1) := by decide +kernel
theorem dX1_init_67 : decode cX1_init 67 = .ok (.iastore, 1) := by decide +kernel
theorem dX1_init_68 : decode cX1_init 68 = .ok (.putfield 30, 3) := by decide +kernel
theorem dX1_init_71 : decode cX1_init 71 = .ok (.return_, 1) := by decide +kernel
theorem dX1_copyFrom_0 : decode cX1_copyFrom 0 = .ok (.aload_n 1, 1) := by decide +kernel
theorem dX1_copyFrom_1 : decode cX1_copyFrom 1 = .ok (.getfield 9, 3) := by decide +kernel
theorem dX1_copyFrom_4 : decode cX1_copyFrom 4 = .ok (.iconst 0, 1) := by decide +kernel
theorem dX1_copyFrom_5 : decode cX1_copyFrom 5 = .ok (.aload_n 0, 1) := by decide +kernel
theorem dX1_copyFrom_6 : decode cX1_copyFrom 6 = .ok (.getfield 9, 3) := by decide +kernel
theorem dX1_copyFrom_9 : decode cX1_copyFrom 9 = .ok (.iconst 0, 1) := by decide +kernel
theorem dX1_copyFrom_10 : decode cX1_copyFrom 10 = .ok (.bipush 16, 2) := by decide +kernel
theorem dX1_copyFrom_12 : decode cX1_copyFrom 12 = .ok (.invokestatic 33, 3) := by decide +kernel
theorem dX1_copyFrom_15 : decode cX1_copyFrom 15 = .ok (.aload_n 1, 1) := by decide +kernel
theorem dX1_copyFrom_16 : decode cX1_copyFrom 16 = .ok (.getfield 15, 3) := by decide +kernel
theorem dX1_copyFrom_19 : decode cX1_copyFrom 19 = .ok (.iconst 0, 1) := by decide +kernel
theorem dX1_copyFrom_20 : decode cX1_copyFrom 20 = .ok (.aload_n 0, 1) := by decide +kernel
theorem dX1_copyFrom_21 : decode cX1_copyFrom 21 = .ok (.getfield 15, 3) := by decide +kernel
theorem dX1_copyFrom_24 : decode cX1_copyFrom 24 = .ok (.iconst 0, 1) := by decide +kernel
theorem dX1_copyFrom_25 : decode cX1_copyFrom 25 = .ok (.bipush 16, 2) := by decide +kernel
theorem dX1_copyFrom_27 : decode cX1_copyFrom 27 = .ok (.invokestatic 33, 3) := by decide +kernel
theorem dX1_copyFrom_30 : decode cX1_copyFrom 30 = .ok (.aload_n 1, 1) := by decide +kernel
theorem dX1_copyFrom_31 : decode cX1_copyFrom 31 = .ok (.getfield 18, 3) := by decide +kernel
theorem dX1_copyFrom_34 : decode cX1_copyFrom 34 = .ok (.iconst 0, 1) := by decide +kernel
theorem dX1_copyFrom_35 : decode cX1_copyFrom 35 = .ok (.aload_n 0, 1) := by decide +kernel
theorem dX1_copyFrom_36 : decode cX1_copyFrom 36 = .ok (.getfield 18, 3) := by decide +kernel
theorem dX1_copyFrom_39 : decode cX1_copyFrom 39 = .ok (.iconst 0, 1) := by decide +kernel
theorem dX1_copyFrom_40 : decode cX1_copyFrom 40 = .ok (.bipush 16, 2) := by decide +kernel
theorem dX1_copyFrom_42 : decode cX1_copyFrom 42 = .ok (.invokestatic 33, 3) := by decide +kernel
theorem dX1_copyFrom_45 : decode cX1_copyFrom 45 = .ok (.aload_n 1, 1) := by decide +kernel
theorem dX1_copyFrom_46 : decode cX1_copyFrom 46 = .ok (.getfield 21, 3) := by decide +kernel
theorem dX1_copyFrom_49 : decode cX1_copyFrom 49 = .ok (.iconst 0, 1) := by decide +kernel
theorem dX1_copyFrom_50 : decode cX1_copyFrom 50 = .ok (.aload_n 0, 1) := by decide +kernel
theorem dX1_copyFrom_51 : decode cX1_copyFrom 51 = .ok (.getfield 21, 3) := by decide +kernel
theorem dX1_copyFrom_54 : decode cX1_copyFrom 54 = .ok (.iconst 0, 1) := by decide +kernel
theorem dX1_copyFrom_55 : decode cX1_copyFrom 55 = .ok (.bipush 16, 2) := by decide +kernel
theorem dX1_copyFrom_57 : decode cX1_copyFrom 57 = .ok (.invokestatic 33, 3) := by decide +kernel
theorem dX1_copyFrom_60 : decode cX1_copyFrom 60 = .ok (.aload_n 1, 1) := by decide +kernel
theorem dX1_copyFrom_61 : decode cX1_copyFrom 61 = .ok (.getfield 24, 3) := by decide +kernel
theorem dX1_copyFrom_64 : decode cX1_copyFrom 64 = .ok (.iconst 0, 1) := by decide +kernel
theorem dX1_copyFrom_65 : decode cX1_copyFrom 65 = .ok (.aload_n 0, 1) := by decide +kernel
theorem dX1_copyFrom_66 : decode cX1_copyFrom 66 = .ok (.getfield 24, 3) := by decide +kernel
theorem dX1_copyFrom_69 : decode cX1_copyFrom 69 = .ok (.iconst 0, 1) := by decide +kernel
theorem dX1_copyFrom_70 : decode cX1_copyFrom 70 = .ok (.bipush 16, 2) := by decide +kernel
theorem dX1_copyFrom_72 : decode cX1_copyFrom 72 = .ok (.invokestatic 33, 3) := by decide +kernel
theorem dX1_copyFrom_75 : decode cX1_copyFrom 75 = .ok (.aload_n 1, 1) := by decide +kernel
theorem dX1_copyFrom_76 : decode cX1_copyFrom 76 = .ok (.getfield 27, 3) := by decide +kernel
theorem dX1_copyFrom_79 : decode cX1_copyFrom 79 = .ok (.iconst 0, 1) := by decide +kernel
theorem dX1_copyFrom_80 : decode cX1_copyFrom 80 = .ok (.aload_n 0, 1) := by decide +kernel
theorem dX1_copyFrom_81 : decode cX1_copyFrom 81 = .ok (.getfield 27, 3) := by decide +kernel
theorem dX1_copyFrom_84 : decode cX1_copyFrom 84 = .ok (.iconst 0, 1) := by decide +kernel
theorem dX1_copyFrom_85 : decode cX1_copyFrom 85 = .ok (.bipush 16, 2) := by decide +kernel
theorem dX1_copyFrom_87 : decode cX1_copyFrom 87 = .ok (.invokestatic 33, 3) := by decide +kernel
theorem dX1_copyFrom_90 : decode cX1_copyFrom 90 = .ok (.aload_n 1, 1) := by decide +kernel
theorem dX1_copyFrom_91 : decode cX1_copyFrom 91 = .ok (.getfield 30, 3) := by decide +kernel
theorem dX1_copyFrom_94 : decode cX1_copyFrom 94 = .ok (.iconst 0, 1) := by decide +kernel
theorem dX1_copyFrom_95 : decode cX1_copyFrom 95 = .ok (.aload_n 0, 1) := by decide +kernel
theorem dX1_copyFrom_96 : decode cX1_copyFrom 96 = .ok (.getfield 30, 3) := by decide +kernel
theorem dX1_copyFrom_99 : decode cX1_copyFrom 99 = .ok (.iconst 0, 1) := by decide +kernel
theorem dX1_copyFrom_100 : decode cX1_copyFrom 100 = .ok (.aload_n 0, 1) := by decide +kernel
theorem dX1_copyFrom_101 : decode cX1_copyFrom 101 = .ok (.getfield 30, 3) := by decide +kernel
theorem dX1_copyFrom_104 : decode cX1_copyFrom 104 = .ok (.arraylength, 1) := by decide +kernel
theorem dX1_copyFrom_105 : decode cX1_copyFrom 105 = .ok (.invokestatic 33, 3) := by decide +kernel
theorem dX1_copyFrom_108 : decode cX1_copyFrom 108 = .ok (.aload_n 0, 1) := by decide +kernel
theorem dX1_copyFrom_109 : decode cX1_copyFrom 109 = .ok (.aload_n 1, 1) := by decide +kernel
theorem dX1_copyFrom_110 : decode cX1_copyFrom 110 = .ok (.getfield 39, 3) := by decide +kernel
theorem dX1_copyFrom_113 : decode cX1_copyFrom 113 = .ok (.putfield 39, 3) := by decide +kernel
theorem dX1_copyFrom_116 : decode cX1_copyFrom 116 = .ok (.aload_n 0, 1) := by decide +kernel
theorem dX1_copyFrom_117 : decode cX1_copyFrom 117 = .ok (.aload_n 1, 1) := by decide +kernel
theorem dX1_copyFrom_118 : decode cX1_copyFrom 118 = .ok (.getfield 43, 3) := by decide +kernel
theorem dX1_copyFrom_121 : decode cX1_copyFrom 121 = .ok (.putfield 43, 3) := by decide +kernel
theorem dX1_copyFrom_124 : decode cX1_copyFrom 124 = .ok (.aload_n 0, 1) := by decide +kernel
theorem dX1_copyFrom_125 : decode cX1_copyFrom 125 = .ok (.aload_n 1, 1) := by decide +kernel
theorem dX1_copyFrom_126 : decode cX1_copyFrom 126 = .ok (.getfield 46, 3) := by decide +kernel
theorem dX1_copyFrom_129 : decode cX1_copyFrom 129 = .ok (.putfield 46, 3) := by decide +kernel
theorem dX1_copyFrom_132 : decode cX1_copyFrom 132 = .ok (.aload_n 0, 1) := by decide +kernel
theorem dX1_copyFrom_133 : decode cX1_copyFrom 133 = .ok (.aload_n 1, 1) := by decide +kernel
theorem dX1_copyFrom_134 : decode cX1_copyFrom 134 = .ok (.getfield 49, 3) := by decide +kernel
theorem dX1_copyFrom_137 : decode cX1_copyFrom 137 = .ok (.putfield 49, 3) := by decide +kernel
theorem dX1_copyFrom_140 : decode cX1_copyFrom 140 = .ok (.aload_n 0, 1) := by decide +kernel
theorem dX1_copyFrom_141 : decode cX1_copyFrom 141 = .ok (.aload_n 1, 1) := by decide +kernel
theorem dX1_copyFrom_142 : decode cX1_copyFrom 142 = .ok (.getfield 52, 3) := by decide +kernel
theorem dX1_copyFrom_145 : decode cX1_copyFrom 145 = .ok (.putfield 52, 3) := by decide +kernel
theorem dX1_copyFrom_148 : decode cX1_copyFrom 148 = .ok (.aload_n 0, 1) := by decide +kernel
theorem dX1_copyFrom_149 : decode cX1_copyFrom 149 = .ok (.aload_n 1, 1) := by decide +kernel
theorem dX1_copyFrom_150 : decode cX1_copyFrom 150 = .ok (.getfield 55, 3) := by decide +kernel
theorem dX1_copyFrom_153 : decode cX1_copyFrom 153 = .ok (.putfield 55, 3) := by decide +kernel
theorem dX1_copyFrom_156 : decode cX1_copyFrom 156 = .ok (.aload_n 0, 1) := by decide +kernel
theorem dX1_copyFrom_157 : decode cX1_copyFrom 157 = .ok (.aload_n 1, 1) := by decide +kernel
theorem dX1_copyFrom_158 : decode cX1_copyFrom 158 = .ok (.getfield 58, 3) := by decide +kernel
theorem dX1_copyFrom_161 : decode cX1_copyFrom 161 = .ok (.putfield 58, 3) := by decide +kernel
theorem dX1_copyFrom_164 : decode cX1_copyFrom 164 = .ok (.aload_n 0, 1) := by decide +kernel
theorem dX1_copyFrom_165 : decode cX1_copyFrom 165 = .ok (.aload_n 1, 1) := by decide +kernel
theorem dX1_copyFrom_166 : decode cX1_copyFrom 166 = .ok (.getfield 61, 3) := by decide +kernel
theorem dX1_copyFrom_169 : decode cX1_copyFrom 169 = .ok (.putfield 61, 3) := by decide +kernel
theorem dX1_copyFrom_172 : decode cX1_copyFrom 172 = .ok (.aload_n 0, 1) := by decide +kernel
theorem dX1_copyFrom_173 : decode cX1_copyFrom 173 = .ok (.aload_n 1, 1) := by decide +kernel
theorem dX1_copyFrom_174 : decode cX1_copyFrom 174 = .ok (.getfield 64, 3) := by decide +kernel
theorem dX1_copyFrom_177 : decode cX1_copyFrom 177 = .ok (.putfield 64, 3) := by decide +kernel
theorem dX1_copyFrom_180 : decode cX1_copyFrom 180 = .ok (.aload_n 0, 1) := by decide +kernel
theorem dX1_copyFrom_181 : decode cX1_copyFrom 181 = .ok (.aload_n 1, 1) := by decide +kernel
theorem dX1_copyFrom_182 : decode cX1_copyFrom 182 = .ok (.getfield 67, 3) := by decide +kernel
theorem dX1_copyFrom_185 : decode cX1_copyFrom 185 = .ok (.putfield 67, 3) := by decide +kernel
theorem dX1_copyFrom_188 : decode cX1_copyFrom 188 = .ok (.return_, 1) := by decide +kernel
theorem dX1_isPlace_0 : decode cX1_isPlace 0 = .ok (.iload_n 1, 1) := by decide +kernel
theorem dX1_isPlace_1 : decode cX1_isPlace 1 = .ok (.ifCond .lt 15, 3) := by decide +kernel
theorem dX1_isPlace_4 : decode cX1_isPlace 4 = .ok (.iload_n 1, 1) := by decide +kernel
theorem dX1_isPlace_5 : decode cX1_isPlace 5 = .ok (.aload_n 0, 1) := by decide +kernel
theorem dX1_isPlace_6 : decode cX1_isPlace 6 = .ok (.getfield 39, 3) := by decide +kernel
theorem dX1_isPlace_9 : decode cX1_isPlace 9 = .ok (.if_icmp .ge 7, 3) := by decide +kernel
theorem dX1_isPlace_12 : decode cX1_isPlace 12 = .ok (.iconst 1, 1) := by decide +kernel
theorem dX1_isPlace_13 : decode cX1_isPlace 13 = .ok (.goto 4, 3) := by decide +kernel
theorem dX1_isPlace_16 : decode cX1_isPlace 16 = .ok (.iconst 0, 1) := by decide +kernel
theorem dX1_isPlace_17 : decode cX1_isPlace 17 = .ok (.ireturn, 1) := by decide +kernel
theorem dX1_hasNeighbour_0 : decode cX1_hasNeighbour 0 = .ok (.iload_n 1, 1) := by decide +kernel
theorem dX1_hasNeighbour_1 : decode cX1_hasNeighbour 1 = .ok (.ifCond .lt 17, 3) := by decide +kernel
theorem dX1_hasNeighbour_4 : decode cX1_hasNeighbour 4 = .ok (.iload_n 1, 1) := by decide +kernel
theorem dX1_hasNeighbour_5 : decode cX1_hasNeighbour 5 = .ok (.aload_n 0, 1) := by decide +kernel
theorem dX1_hasNeighbour_6 : decode cX1_hasNeighbour 6 = .ok (.getfield 39, 3) := by decide +kernel
theorem dX1_hasNeighbour_9 : decode cX1_hasNeighbour 9 = .ok (.iconst 1, 1) := by decide +kernel
theorem dX1_hasNeighbour_10 : decode cX1_hasNeighbour 10 = .ok (.isub, 1) := by decide +kernel
theorem dX1_hasNeighbour_11 : decode cX1_hasNeighbour 11 = .ok (.if_icmp .ge 7, 3) := by decide +kernel
theorem dX1_hasNeighbour_14 : decode cX1_hasNeighbour 14 = .ok (.iconst 1, 1) := by decide +kernel
theorem dX1_hasNeighbour_15 : decode cX1_hasNeighbour 15 = .ok (.goto 4, 3) := by decide +kernel
theorem dX1_hasNeighbour_18 : decode cX1_hasNeighbour 18 = .ok (.iconst 0, 1) := by decide +kernel
theorem dX1_hasNeighbour_19 : decode cX1_hasNeighbour 19 = .ok (.ireturn, 1) := by decide +kernel
set_option maxRecDepth 20000 in
theorem ggX1_admit_X3_isWithin : GoodIn wsX1_admit wsX3_isWithin := goodIn_r _ [11] (by decide +kernel) (by decide +kernel)
set_option maxRecDepth 20000 in
theorem gX1_admit_X3_isWithin_n70 : GoodIn wsX1_admit (wsX3_isWithin) := ggX1_admit_X3_isWithin
theorem dX1_admit_0 : decode cX1_admit 0 = .ok (.iload_n 1, 1) := by decide +kernel
theorem dX1_admit_1 : decode cX1_admit 1 = .ok (.bipush 10, 2) := by decide +kernel
theorem dX1_admit_3 : decode cX1_admit 3 = .ok (.sipush 999, 3) := by decide +kernel
theorem dX1_admit_6 : decode cX1_admit 6 = .ok (.invokestatic 70, 3) := by decide +kernel
theorem dX1_admit_9 : decode cX1_admit 9 = .ok (.ifCond .eq 23, 3) := by decide +kernel
theorem dX1_admit_12 : decode cX1_admit 12 = .ok (.iload_n 2, 1) := by decide +kernel
theorem dX1_admit_13 : decode cX1_admit 13 = .ok (.iconst 0, 1) := by decide +kernel
theorem dX1_admit_14 : decode cX1_admit 14 = .ok (.sipush 9999, 3) := by decide +kernel
theorem dX1_admit_17 : decode cX1_admit 17 = .ok (.invokestatic 70, 3) := by decide +kernel
theorem dX1_admit_20 : decode cX1_admit 20 = .ok (.ifCond .eq 12, 3) := by decide +kernel
theorem dX1_admit_23 : decode cX1_admit 23 = .ok (.iload_n 3, 1) := by decide +kernel
theorem dX1_admit_24 : decode cX1_admit 24 = .ok (.iconst 0, 1) := by decide +kernel
theorem dX1_admit_25 : decode cX1_admit 25 = .ok (.iconst 5, 1) := by decide +kernel
theorem dX1_admit_26 : decode cX1_admit 26 = .ok (.invokestatic 70, 3) := by decide +kernel
theorem dX1_admit_29 : decode cX1_admit 29 = .ok (.ifCond .ne 6, 3) := by decide +kernel
theorem dX1_admit_32 : decode cX1_admit 32 = .ok (.bipush (-2), 2) := by decide +kernel
theorem dX1_admit_34 : decode cX1_admit 34 = .ok (.ireturn, 1) := by decide +kernel
theorem dX1_admit_35 : decode cX1_admit 35 = .ok (.aload_n 0, 1) := by decide +kernel
theorem dX1_admit_36 : decode cX1_admit 36 = .ok (.getfield 39, 3) := by decide +kernel
theorem dX1_admit_39 : decode cX1_admit 39 = .ok (.bipush 16, 2) := by decide +kernel
theorem dX1_admit_41 : decode cX1_admit 41 = .ok (.if_icmp .ge 13, 3) := by decide +kernel
theorem dX1_admit_44 : decode cX1_admit 44 = .ok (.aload_n 0, 1) := by decide +kernel
theorem dX1_admit_45 : decode cX1_admit 45 = .ok (.getfield 43, 3) := by decide +kernel
theorem dX1_admit_48 : decode cX1_admit 48 = .ok (.sipush 200, 3) := by decide +kernel
theorem dX1_admit_51 : decode cX1_admit 51 = .ok (.if_icmp .lt 6, 3) := by decide +kernel
theorem dX1_admit_54 : decode cX1_admit 54 = .ok (.bipush (-3), 2) := by decide +kernel
theorem dX1_admit_56 : decode cX1_admit 56 = .ok (.ireturn, 1) := by decide +kernel
theorem dX1_admit_57 : decode cX1_admit 57 = .ok (.aload_n 0, 1) := by decide +kernel
theorem dX1_admit_58 : decode cX1_admit 58 = .ok (.getfield 39, 3) := by decide +kernel
theorem dX1_admit_61 : decode cX1_admit 61 = .ok (.istore 4, 2) := by decide +kernel
theorem dX1_admit_63 : decode cX1_admit 63 = .ok (.aload_n 0, 1) := by decide +kernel
theorem dX1_admit_64 : decode cX1_admit 64 = .ok (.getfield 9, 3) := by decide +kernel
theorem dX1_admit_67 : decode cX1_admit 67 = .ok (.iload 4, 2) := by decide +kernel
theorem dX1_admit_69 : decode cX1_admit 69 = .ok (.aload_n 0, 1) := by decide +kernel
theorem dX1_admit_70 : decode cX1_admit 70 = .ok (.getfield 43, 3) := by decide +kernel
theorem dX1_admit_73 : decode cX1_admit 73 = .ok (.iastore, 1) := by decide +kernel
theorem dX1_admit_74 : decode cX1_admit 74 = .ok (.aload_n 0, 1) := by decide +kernel
theorem dX1_admit_75 : decode cX1_admit 75 = .ok (.getfield 15, 3) := by decide +kernel
theorem dX1_admit_78 : decode cX1_admit 78 = .ok (.iload 4, 2) := by decide +kernel
theorem dX1_admit_80 : decode cX1_admit 80 = .ok (.iconst 0, 1) := by decide +kernel
theorem dX1_admit_81 : decode cX1_admit 81 = .ok (.iastore, 1) := by decide +kernel
theorem dX1_admit_82 : decode cX1_admit 82 = .ok (.aload_n 0, 1) := by decide +kernel
theorem dX1_admit_83 : decode cX1_admit 83 = .ok (.getfield 18, 3) := by decide +kernel
theorem dX1_admit_86 : decode cX1_admit 86 = .ok (.iload 4, 2) := by decide +kernel
theorem dX1_admit_88 : decode cX1_admit 88 = .ok (.iload_n 1, 1) := by decide +kernel
theorem dX1_admit_89 : decode cX1_admit 89 = .ok (.iastore, 1) := by decide +kernel
theorem dX1_admit_90 : decode cX1_admit 90 = .ok (.aload_n 0, 1) := by decide +kernel
theorem dX1_admit_91 : decode cX1_admit 91 = .ok (.getfield 21, 3) := by decide +kernel
theorem dX1_admit_94 : decode cX1_admit 94 = .ok (.iload 4, 2) := by decide +kernel
theorem dX1_admit_96 : decode cX1_admit 96 = .ok (.iload_n 2, 1) := by decide +kernel
theorem dX1_admit_97 : decode cX1_admit 97 = .ok (.iastore, 1) := by decide +kernel
theorem dX1_admit_98 : decode cX1_admit 98 = .ok (.aload_n 0, 1) := by decide +kernel
theorem dX1_admit_99 : decode cX1_admit 99 = .ok (.getfield 24, 3) := by decide +kernel
theorem dX1_admit_102 : decode cX1_admit 102 = .ok (.iload 4, 2) := by decide +kernel
theorem dX1_admit_104 : decode cX1_admit 104 = .ok (.iload_n 3, 1) := by decide +kernel
theorem dX1_admit_105 : decode cX1_admit 105 = .ok (.iastore, 1) := by decide +kernel
theorem dX1_admit_106 : decode cX1_admit 106 = .ok (.aload_n 0, 1) := by decide +kernel
theorem dX1_admit_107 : decode cX1_admit 107 = .ok (.getfield 27, 3) := by decide +kernel
theorem dX1_admit_110 : decode cX1_admit 110 = .ok (.iload 4, 2) := by decide +kernel
theorem dX1_admit_112 : decode cX1_admit 112 = .ok (.iconst 0, 1) := by decide +kernel
theorem dX1_admit_113 : decode cX1_admit 113 = .ok (.iastore, 1) := by decide +kernel
theorem dX1_admit_114 : decode cX1_admit 114 = .ok (.aload_n 0, 1) := by decide +kernel
theorem dX1_admit_115 : decode cX1_admit 115 = .ok (.dup, 1) := by decide +kernel
theorem dX1_admit_116 : decode cX1_admit 116 = .ok (.getfield 39, 3) := by decide +kernel
theorem dX1_admit_119 : decode cX1_admit 119 = .ok (.iconst 1, 1) := by decide +kernel
theorem dX1_admit_120 : decode cX1_admit 120 = .ok (.iadd, 1) := by decide +kernel
theorem dX1_admit_121 : decode cX1_admit 121 = .ok (.putfield 39, 3) := by decide +kernel
theorem dX1_admit_124 : decode cX1_admit 124 = .ok (.aload_n 0, 1) := by decide +kernel
theorem dX1_admit_125 : decode cX1_admit 125 = .ok (.dup, 1) := by decide +kernel
theorem dX1_admit_126 : decode cX1_admit 126 = .ok (.getfield 43, 3) := by decide +kernel
theorem dX1_admit_129 : decode cX1_admit 129 = .ok (.iconst 1, 1) := by decide +kernel
theorem dX1_admit_130 : decode cX1_admit 130 = .ok (.iadd, 1) := by decide +kernel
theorem dX1_admit_131 : decode cX1_admit 131 = .ok (.putfield 43, 3) := by decide +kernel
theorem dX1_admit_134 : decode cX1_admit 134 = .ok (.iload 4, 2) := by decide +kernel
theorem dX1_admit_136 : decode cX1_admit 136 = .ok (.ireturn, 1) := by decide +kernel
set_option maxRecDepth 20000 in
theorem ggX1_dismiss_X1_isPlace : GoodIn wsX1_dismiss wsX1_isPlace := goodIn_r _ [7, 8, 25, 26, 27, 28, 29, 30, 31, 32, 33, 34, 35, 36, 37, 38, 39, 40, 41] (by decide +kernel) (by decide +kernel)
set_option maxRecDepth 20000 in
theorem gX1_dismiss_X1_isPlace : GoodIn wsX1_dismiss (wsV RX1 74 RX1 yX1_isPlace wsX1_isPlace) := goodIn_app (goodIn_of _ (by decide +kernel)) ggX1_dismiss_X1_isPlace
set_option maxRecDepth 20000 in
theorem ggX1_dismiss_X1_remove : GoodIn wsX1_dismiss wsX1_remove := goodIn_r _ [12, 13, 1, 14, 15, 16, 17, 8, 18, 19, 6, 20, 21, 22, 23, 24, 25, 26, 27, 28, 29, 30, 31, 32, 33, 34, 35, 36, 37, 38, 39, 40, 41] (by decide +kernel) (by decide +kernel)
set_option maxRecDepth 20000 in
theorem gX1_dismiss_X1_remove : GoodIn wsX1_dismiss (wsV RX1 78 RX1 yX1_remove wsX1_remove) := goodIn_app (goodIn_of _ (by decide +kernel)) ggX1_dismiss_X1_remove
theorem dX1_dismiss_0 : decode cX1_dismiss 0 = .ok (.aload_n 0, 1) := by decide +kernel
theorem dX1_dismiss_1 : decode cX1_dismiss 1 = .ok (.iload_n 1, 1) := by decide +kernel
theorem dX1_dismiss_2 : decode cX1_dismiss 2 = .ok (.invokevirtual 74, 3) := by decide +kernel
theorem dX1_dismiss_5 : decode cX1_dismiss 5 = .ok (.ifCond .ne 5, 3) := by decide +kernel
theorem dX1_dismiss_8 : decode cX1_dismiss 8 = .ok (.iconst (-1), 1) := by decide +kernel
theorem dX1_dismiss_9 : decode cX1_dismiss 9 = .ok (.ireturn, 1) := by decide +kernel
theorem dX1_dismiss_10 : decode cX1_dismiss 10 = .ok (.aload_n 0, 1) := by decide +kernel
theorem dX1_dismiss_11 : decode cX1_dismiss 11 = .ok (.getfield 15, 3) := by decide +kernel
theorem dX1_dismiss_14 : decode cX1_dismiss 14 = .ok (.iload_n 1, 1) := by decide +kernel
theorem dX1_dismiss_15 : decode cX1_dismiss 15 = .ok (.iaload, 1) := by decide +kernel
theorem dX1_dismiss_16 : decode cX1_dismiss 16 = .ok (.istore_n 2, 1) := by decide +kernel
theorem dX1_dismiss_17 : decode cX1_dismiss 17 = .ok (.aload_n 0, 1) := by decide +kernel
theorem dX1_dismiss_18 : decode cX1_dismiss 18 = .ok (.iload_n 1, 1) := by decide +kernel
theorem dX1_dismiss_19 : decode cX1_dismiss 19 = .ok (.invokevirtual 78, 3) := by decide +kernel
theorem dX1_dismiss_22 : decode cX1_dismiss 22 = .ok (.aload_n 0, 1) := by decide +kernel
theorem dX1_dismiss_23 : decode cX1_dismiss 23 = .ok (.dup, 1) := by decide +kernel
theorem dX1_dismiss_24 : decode cX1_dismiss 24 = .ok (.getfield 46, 3) := by decide +kernel
theorem dX1_dismiss_27 : decode cX1_dismiss 27 = .ok (.iconst 1, 1) := by decide +kernel
theorem dX1_dismiss_28 : decode cX1_dismiss 28 = .ok (.iadd, 1) := by decide +kernel
theorem dX1_dismiss_29 : decode cX1_dismiss 29 = .ok (.putfield 46, 3) := by decide +kernel
theorem dX1_dismiss_32 : decode cX1_dismiss 32 = .ok (.iload_n 2, 1) := by decide +kernel
theorem dX1_dismiss_33 : decode cX1_dismiss 33 = .ok (.ireturn, 1) := by decide +kernel
set_option maxRecDepth 20000 in
theorem ggX1_changePlaces_X1_hasNeighbour : GoodIn wsX1_changePlaces wsX1_hasNeighbour := goodIn_r _ [11, 12, 16, 17, 18, 19, 20, 21, 22, 23, 24, 25, 26, 27, 28, 29, 30, 31, 32] (by decide +kernel) (by decide +kernel)
set_option maxRecDepth 20000 in
theorem gX1_changePlaces_X1_hasNeighbour : GoodIn wsX1_changePlaces (wsV RX1 82 RX1 yX1_hasNeighbour wsX1_hasNeighbour) := goodIn_app (goodIn_of _ (by decide +kernel)) ggX1_changePlaces_X1_hasNeighbour
set_option maxRecDepth 20000 in
theorem ggX1_changePlaces_X1_exchange : GoodIn wsX1_changePlaces wsX1_exchange := goodIn_r _ [15] (by decide +kernel) (by decide +kernel)
set_option maxRecDepth 20000 in
theorem gX1_changePlaces_X1_exchange : GoodIn wsX1_changePlaces (va_wsS RX1 85 yX1_exchange wsX1_exchange) := goodIn_app (goodIn_of _ (by decide +kernel)) ggX1_changePlaces_X1_exchange
theorem dX1_changePlaces_0 : decode cX1_changePlaces 0 = .ok (.aload_n 0, 1) := by decide +kernel
theorem dX1_changePlaces_1 : decode cX1_changePlaces 1 = .ok (.iload_n 1, 1) := by decide +kernel
theorem dX1_changePlaces_2 : decode cX1_changePlaces 2 = .ok (.invokevirtual 82, 3) := by decide +kernel
theorem dX1_changePlaces_5 : decode cX1_changePlaces 5 = .ok (.ifCond .ne 5, 3) := by decide +kernel
theorem dX1_changePlaces_8 : decode cX1_changePlaces 8 = .ok (.iconst (-1), 1) := by decide +kernel
theorem dX1_changePlaces_9 : decode cX1_changePlaces 9 = .ok (.ireturn, 1) := by decide +kernel
theorem dX1_changePlaces_10 : decode cX1_changePlaces 10 = .ok (.aload_n 0, 1) := by decide +kernel
theorem dX1_changePlaces_11 : decode cX1_changePlaces 11 = .ok (.getfield 9, 3) := by decide +kernel
theorem dX1_changePlaces_14 : decode cX1_changePlaces 14 = .ok (.iload_n 1, 1) := by decide +kernel
theorem dX1_changePlaces_15 : decode cX1_changePlaces 15 = .ok (.invokestatic 85, 3) := by decide +kernel
theorem dX1_changePlaces_18 : decode cX1_changePlaces 18 = .ok (.aload_n 0, 1) := by decide +kernel
theorem dX1_changePlaces_19 : decode cX1_changePlaces 19 = .ok (.getfield 15, 3) := by decide +kernel
theorem dX1_changePlaces_22 : decode cX1_changePlaces 22 = .ok (.iload_n 1, 1) := by decide +kernel
theorem dX1_changePlaces_23 : decode cX1_changePlaces 23 = .ok (.invokestatic 85, 3) := by decide +kernel
theorem dX1_changePlaces_26 : decode cX1_changePlaces 26 = .ok (.aload_n 0, 1) := by decide +kernel
theorem dX1_changePlaces_27 : decode cX1_changePlaces 27 = .ok (.getfield 18, 3) := by decide +kernel
theorem dX1_changePlaces_30 : decode cX1_changePlaces 30 = .ok (.iload_n 1, 1) := by decide +kernel
theorem dX1_changePlaces_31 : decode cX1_changePlaces 31 = .ok (.invokestatic 85, 3) := by decide +kernel
theorem dX1_changePlaces_34 : decode cX1_changePlaces 34 = .ok (.aload_n 0, 1) := by decide +kernel
theorem dX1_changePlaces_35 : decode cX1_changePlaces 35 = .ok (.getfield 21, 3) := by decide +kernel
theorem dX1_changePlaces_38 : decode cX1_changePlaces 38 = .ok (.iload_n 1, 1) := by decide +kernel
theorem dX1_changePlaces_39 : decode cX1_changePlaces 39 = .ok (.invokestatic 85, 3) := by decide +kernel
theorem dX1_changePlaces_42 : decode cX1_changePlaces 42 = .ok (.aload_n 0, 1) := by decide +kernel
theorem dX1_changePlaces_43 : decode cX1_changePlaces 43 = .ok (.getfield 24, 3) := by decide +kernel
theorem dX1_changePlaces_46 : decode cX1_changePlaces 46 = .ok (.iload_n 1, 1) := by decide +kernel
theorem dX1_changePlaces_47 : decode cX1_changePlaces 47 = .ok (.invokestatic 85, 3) := by decide +kernel
theorem dX1_changePlaces_50 : decode cX1_changePlaces 50 = .ok (.aload_n 0, 1) := by decide +kernel
theorem dX1_changePlaces_51 : decode cX1_changePlaces 51 = .ok (.getfield 27, 3) := by decide +kernel
theorem dX1_changePlaces_54 : decode cX1_changePlaces 54 = .ok (.iload_n 1, 1) := by decide +kernel
theorem dX1_changePlaces_55 : decode cX1_changePlaces 55 = .ok (.invokestatic 85, 3) := by decide +kernel
theorem dX1_changePlaces_58 : decode cX1_changePlaces 58 = .ok (.aload_n 0, 1) := by decide +kernel
theorem dX1_changePlaces_59 : decode cX1_changePlaces 59 = .ok (.getfield 9, 3) := by decide +kernel
theorem dX1_changePlaces_62 : decode cX1_changePlaces 62 = .ok (.iload_n 1, 1) := by decide +kernel
theorem dX1_changePlaces_63 : decode cX1_changePlaces 63 = .ok (.iaload, 1) := by decide +kernel
theorem dX1_changePlaces_64 : decode cX1_changePlaces 64 = .ok (.ireturn, 1) := by decide +kernel
set_option maxRecDepth 20000 in
theorem ggX1_swapUmbrellas_X1_hasNeighbour : GoodIn wsX1_swapUmbrellas wsX1_hasNeighbour := goodIn_r _ [8, 9, 18, 19, 20, 21, 22, 23, 24, 25, 26, 27, 28, 29, 30, 31, 32, 33, 34] (by decide +kernel) (by decide +kernel)
set_option maxRecDepth 20000 in
theorem gX1_swapUmbrellas_X1_hasNeighbour : GoodIn wsX1_swapUmbrellas (wsV RX1 82 RX1 yX1_hasNeighbour wsX1_hasNeighbour) := goodIn_app (goodIn_of _ (by decide +kernel)) ggX1_swapUmbrellas_X1_hasNeighbour
set_option maxRecDepth 20000 in
theorem ggX1_swapUmbrellas_X1_refusal : GoodIn wsX1_swapUmbrellas wsX1_refusal := goodIn_r _ [13, 1, 14, 18, 19, 20, 21, 22, 23, 24, 25, 26, 27, 28, 29, 30, 31, 32, 33, 34] (by decide +kernel) (by decide +kernel)
set_option maxRecDepth 20000 in
theorem gX1_swapUmbrellas_X1_refusal : GoodIn wsX1_swapUmbrellas (wsV RX1 89 RX1 yX1_refusal wsX1_refusal) := goodIn_app (goodIn_of _ (by decide +kernel)) ggX1_swapUmbrellas_X1_refusal
set_option maxRecDepth 20000 in
theorem ggX1_swapUmbrellas_X1_exchange : GoodIn wsX1_swapUmbrellas wsX1_exchange := goodIn_r _ [17] (by decide +kernel) (by decide +kernel)
set_option maxRecDepth 20000 in
theorem gX1_swapUmbrellas_X1_exchange : GoodIn wsX1_swapUmbrellas (va_wsS RX1 85 yX1_exchange wsX1_exchange) := goodIn_app (goodIn_of _ (by decide +kernel)) ggX1_swapUmbrellas_X1_exchange
theorem dX1_swapUmbrellas_0 : decode cX1_swapUmbrellas 0 = .ok (.aload_n 0, 1) := by decide +kernel
theorem dX1_swapUmbrellas_1 : decode cX1_swapUmbrellas 1 = .ok (.iload_n 1, 1) := by decide +kernel
theorem dX1_swapUmbrellas_2 : decode cX1_swapUmbrellas 2 = .ok (.invokevirtual 82, 3) := by decide +kernel
theorem dX1_swapUmbrellas_5 : decode cX1_swapUmbrellas 5 = .ok (.ifCond .ne 5, 3) := by decide +kernel
theorem dX1_swapUmbrellas_8 : decode cX1_swapUmbrellas 8 = .ok (.iconst (-1), 1) := by decide +kernel
theorem dX1_swapUmbrellas_9 : decode cX1_swapUmbrellas 9 = .ok (.ireturn, 1) := by decide +kernel
theorem dX1_swapUmbrellas_10 : decode cX1_swapUmbrellas 10 = .ok (.aload_n 0, 1) := by decide +kernel
theorem dX1_swapUmbrellas_11 : decode cX1_swapUmbrellas 11 = .ok (.iload_n 1, 1) := by decide +kernel
theorem dX1_swapUmbrellas_12 : decode cX1_swapUmbrellas 12 = .ok (.invokevirtual 89, 3) := by decide +kernel
theorem dX1_swapUmbrellas_15 : decode cX1_swapUmbrellas 15 = .ok (.istore_n 2, 1) := by decide +kernel
theorem dX1_swapUmbrellas_16 : decode cX1_swapUmbrellas 16 = .ok (.iload_n 2, 1) := by decide +kernel
theorem dX1_swapUmbrellas_17 : decode cX1_swapUmbrellas 17 = .ok (.ifCond .eq 8, 3) := by decide +kernel
theorem dX1_swapUmbrellas_20 : decode cX1_swapUmbrellas 20 = .ok (.bipush (-10), 2) := by decide +kernel
theorem dX1_swapUmbrellas_22 : decode cX1_swapUmbrellas 22 = .ok (.iload_n 2, 1) := by decide +kernel
theorem dX1_swapUmbrellas_23 : decode cX1_swapUmbrellas 23 = .ok (.isub, 1) := by decide +kernel
theorem dX1_swapUmbrellas_24 : decode cX1_swapUmbrellas 24 = .ok (.ireturn, 1) := by decide +kernel
theorem dX1_swapUmbrellas_25 : decode cX1_swapUmbrellas 25 = .ok (.aload_n 0, 1) := by decide +kernel
theorem dX1_swapUmbrellas_26 : decode cX1_swapUmbrellas 26 = .ok (.getfield 24, 3) := by decide +kernel
theorem dX1_swapUmbrellas_29 : decode cX1_swapUmbrellas 29 = .ok (.iload_n 1, 1) := by decide +kernel
theorem dX1_swapUmbrellas_30 : decode cX1_swapUmbrellas 30 = .ok (.invokestatic 85, 3) := by decide +kernel
theorem dX1_swapUmbrellas_33 : decode cX1_swapUmbrellas 33 = .ok (.aload_n 0, 1) := by decide +kernel
theorem dX1_swapUmbrellas_34 : decode cX1_swapUmbrellas 34 = .ok (.getfield 27, 3) := by decide +kernel
theorem dX1_swapUmbrellas_37 : decode cX1_swapUmbrellas 37 = .ok (.iload_n 1, 1) := by decide +kernel
theorem dX1_swapUmbrellas_38 : decode cX1_swapUmbrellas 38 = .ok (.dup2, 1) := by decide +kernel
theorem dX1_swapUmbrellas_39 : decode cX1_swapUmbrellas 39 = .ok (.iaload, 1) := by decide +kernel
theorem dX1_swapUmbrellas_40 : decode cX1_swapUmbrellas 40 = .ok (.iconst 1, 1) := by decide +kernel
theorem dX1_swapUmbrellas_41 : decode cX1_swapUmbrellas 41 = .ok (.iadd, 1) := by decide +kernel
theorem dX1_swapUmbrellas_42 : decode cX1_swapUmbrellas 42 = .ok (.iastore, 1) := by decide +kernel
theorem dX1_swapUmbrellas_43 : decode cX1_swapUmbrellas 43 = .ok (.aload_n 0, 1) := by decide +kernel
theorem dX1_swapUmbrellas_44 : decode cX1_swapUmbrellas 44 = .ok (.getfield 27, 3) := by decide +kernel
theorem dX1_swapUmbrellas_47 : decode cX1_swapUmbrellas 47 = .ok (.iload_n 1, 1) := by decide +kernel
theorem dX1_swapUmbrellas_48 : decode cX1_swapUmbrellas 48 = .ok (.iconst 1, 1) := by decide +kernel
theorem dX1_swapUmbrellas_49 : decode cX1_swapUmbrellas 49 = .ok (.iadd, 1) := by decide +kernel
theorem dX1_swapUmbrellas_50 : decode cX1_swapUmbrellas 50 = .ok (.dup2, 1) := by decide +kernel
theorem dX1_swapUmbrellas_51 : decode cX1_swapUmbrellas 51 = .ok (.iaload, 1) := by decide +kernel
theorem dX1_swapUmbrellas_52 : decode cX1_swapUmbrellas 52 = .ok (.iconst 1, 1) := by decide +kernel
theorem dX1_swapUmbrellas_53 : decode cX1_swapUmbrellas 53 = .ok (.iadd, 1) := by decide +kernel
theorem dX1_swapUmbrellas_54 : decode cX1_swapUmbrellas 54 = .ok (.iastore, 1) := by decide +kernel
theorem dX1_swapUmbrellas_55 : decode cX1_swapUmbrellas 55 = .ok (.aload_n 0, 1) := by decide +kernel
theorem dX1_swapUmbrellas_56 : decode cX1_swapUmbrellas 56 = .ok (.dup, 1) := by decide +kernel
theorem dX1_swapUmbrellas_57 : decode cX1_swapUmbrellas 57 = .ok (.getfield 61, 3) := by decide +kernel
theorem dX1_swapUmbrellas_60 : decode cX1_swapUmbrellas 60 = .ok (.iconst 1, 1) := by decide +kernel
theorem dX1_swapUmbrellas_61 : decode cX1_swapUmbrellas 61 = .ok (.iadd, 1) := by decide +kernel
theorem dX1_swapUmbrellas_62 : decode cX1_swapUmbrellas 62 = .ok (.putfield 61, 3) := by decide +kernel
theorem dX1_swapUmbrellas_65 : decode cX1_swapUmbrellas 65 = .ok (.aload_n 0, 1) := by decide +kernel
theorem dX1_swapUmbrellas_66 : decode cX1_swapUmbrellas 66 = .ok (.getfield 24, 3) := by decide +kernel
theorem dX1_swapUmbrellas_69 : decode cX1_swapUmbrellas 69 = .ok (.iload_n 1, 1) := by decide +kernel
theorem dX1_swapUmbrellas_70 : decode cX1_swapUmbrellas 70 = .ok (.iaload, 1) := by decide +kernel
theorem dX1_swapUmbrellas_71 : decode cX1_swapUmbrellas 71 = .ok (.ireturn, 1) := by decide +kernel
set_option maxRecDepth 20000 in
theorem ggX1_changeSetting_X3_isWithin : GoodIn wsX1_changeSetting wsX3_isWithin := goodIn_r _ [4] (by decide +kernel) (by decide +kernel)
set_option maxRecDepth 20000 in
theorem gX1_changeSetting_X3_isWithin_n70 : GoodIn wsX1_changeSetting (wsX3_isWithin) := ggX1_changeSetting_X3_isWithin
theorem dX1_changeSetting_0 : decode cX1_changeSetting 0 = .ok (.iload_n 1, 1) := by decide +kernel
theorem dX1_changeSetting_1 : decode cX1_changeSetting 1 = .ok (.iconst 0, 1) := by decide +kernel
theorem dX1_changeSetting_2 : decode cX1_changeSetting 2 = .ok (.iconst 2, 1) := by decide +kernel
theorem dX1_changeSetting_3 : decode cX1_changeSetting 3 = .ok (.invokestatic 70, 3) := by decide +kernel
theorem dX1_changeSetting_6 : decode cX1_changeSetting 6 = .ok (.ifCond .ne 5, 3) := by decide +kernel
theorem dX1_changeSetting_9 : decode cX1_changeSetting 9 = .ok (.iconst (-1), 1) := by decide +kernel
theorem dX1_changeSetting_10 : decode cX1_changeSetting 10 = .ok (.ireturn, 1) := by decide +kernel
theorem dX1_changeSetting_11 : decode cX1_changeSetting 11 = .ok (.iload_n 2, 1) := by decide +kernel
theorem dX1_changeSetting_12 : decode cX1_changeSetting 12 = .ok (.getstatic 93, 3) := by decide +kernel
theorem dX1_changeSetting_15 : decode cX1_changeSetting 15 = .ok (.iload_n 1, 1) := by decide +kernel
theorem dX1_changeSetting_16 : decode cX1_changeSetting 16 = .ok (.iaload, 1) := by decide +kernel
theorem dX1_changeSetting_17 : decode cX1_changeSetting 17 = .ok (.getstatic 96, 3) := by decide +kernel
theorem dX1_changeSetting_20 : decode cX1_changeSetting 20 = .ok (.iload_n 1, 1) := by decide +kernel
theorem dX1_changeSetting_21 : decode cX1_changeSetting 21 = .ok (.iaload, 1) := by decide +kernel
theorem dX1_changeSetting_22 : decode cX1_changeSetting 22 = .ok (.invokestatic 70, 3) := by decide +kernel
theorem dX1_changeSetting_25 : decode cX1_changeSetting 25 = .ok (.ifCond .ne 6, 3) := by decide +kernel
theorem dX1_changeSetting_28 : decode cX1_changeSetting 28 = .ok (.bipush (-2), 2) := by decide +kernel
theorem dX1_changeSetting_30 : decode cX1_changeSetting 30 = .ok (.ireturn, 1) := by decide +kernel
theorem dX1_changeSetting_31 : decode cX1_changeSetting 31 = .ok (.aload_n 0, 1) := by decide +kernel
theorem dX1_changeSetting_32 : decode cX1_changeSetting 32 = .ok (.getfield 30, 3) := by decide +kernel
theorem dX1_changeSetting_35 : decode cX1_changeSetting 35 = .ok (.iload_n 1, 1) := by decide +kernel
theorem dX1_changeSetting_36 : decode cX1_changeSetting 36 = .ok (.iaload, 1) := by decide +kernel
theorem dX1_changeSetting_37 : decode cX1_changeSetting 37 = .ok (.istore_n 3, 1) := by decide +kernel
theorem dX1_changeSetting_38 : decode cX1_changeSetting 38 = .ok (.iload_n 3, 1) := by decide +kernel
theorem dX1_changeSetting_39 : decode cX1_changeSetting 39 = .ok (.iload_n 2, 1) := by decide +kernel
theorem dX1_changeSetting_40 : decode cX1_changeSetting 40 = .ok (.if_icmp .ne 6, 3) := by decide +kernel
theorem dX1_changeSetting_43 : decode cX1_changeSetting 43 = .ok (.bipush (-5), 2) := by decide +kernel
theorem dX1_changeSetting_45 : decode cX1_changeSetting 45 = .ok (.ireturn, 1) := by decide +kernel
theorem dX1_changeSetting_46 : decode cX1_changeSetting 46 = .ok (.aload_n 0, 1) := by decide +kernel
theorem dX1_changeSetting_47 : decode cX1_changeSetting 47 = .ok (.getfield 30, 3) := by decide +kernel
theorem dX1_changeSetting_50 : decode cX1_changeSetting 50 = .ok (.iload_n 1, 1) := by decide +kernel
theorem dX1_changeSetting_51 : decode cX1_changeSetting 51 = .ok (.iload_n 2, 1) := by decide +kernel
theorem dX1_changeSetting_52 : decode cX1_changeSetting 52 = .ok (.iastore, 1) := by decide +kernel
theorem dX1_changeSetting_53 : decode cX1_changeSetting 53 = .ok (.iload_n 3, 1) := by decide +kernel
theorem dX1_changeSetting_54 : decode cX1_changeSetting 54 = .ok (.ireturn, 1) := by decide +kernel
set_option maxRecDepth 20000 in
theorem ggX1_rain_X3_isGust : GoodIn wsX1_rain wsX3_isGust := goodIn_r _ [6, 7, 8, 5, 9] (by decide +kernel) (by decide +kernel)
set_option maxRecDepth 20000 in
theorem gX1_rain_X3_isGust_n99 : GoodIn wsX1_rain (wsX3_isGust) := ggX1_rain_X3_isGust
set_option maxRecDepth 20000 in
theorem ggX1_rain_X1_wetnessAfter : GoodIn wsX1_rain wsX1_wetnessAfter := goodIn_r _ [14, 2, 15, 16, 17, 18, 19, 20, 21, 13, 22, 23, 24, 25, 26, 1, 27, 28, 29, 30, 31, 32, 33, 34, 35, 36, 37, 38, 39, 40, 41, 42, 63, 64, 65, 66, 67, 68, 69, 70, 71, 72, 73, 74, 75, 76, 77, 78, 79] (by decide +kernel) (by decide +kernel)
set_option maxRecDepth 20000 in
theorem gX1_rain_X1_wetnessAfter : GoodIn wsX1_rain (wsV RX1 103 RX1 yX1_wetnessAfter wsX1_wetnessAfter) := goodIn_app (goodIn_of _ (by decide +kernel)) ggX1_rain_X1_wetnessAfter
set_option maxRecDepth 20000 in
theorem ggX1_rain_X1_removeSoaked : GoodIn wsX1_rain wsX1_removeSoaked := goodIn_r _ [46, 1, 2, 47, 48, 49, 50, 51, 13, 52, 53, 54, 27, 55, 56, 57, 58, 59, 60, 61, 62, 63, 64, 65, 66, 67, 68, 69, 70, 71, 72, 73, 74, 75, 76, 77, 78, 79] (by decide +kernel) (by decide +kernel)
set_option maxRecDepth 20000 in
theorem gX1_rain_X1_removeSoaked : GoodIn wsX1_rain (wsV RX1 107 RX1 yX1_removeSoaked wsX1_removeSoaked) := goodIn_app (goodIn_of _ (by decide +kernel)) ggX1_rain_X1_removeSoaked
theorem dX1_rain_0 : decode cX1_rain 0 = .ok (.iload_n 1, 1) := by decide +kernel
theorem dX1_rain_1 : decode cX1_rain 1 = .ok (.iload_n 2, 1) := by decide +kernel
theorem dX1_rain_2 : decode cX1_rain 2 = .ok (.invokestatic 99, 3) := by decide +kernel
theorem dX1_rain_5 : decode cX1_rain 5 = .ok (.ifCond .ne 6, 3) := by decide +kernel
theorem dX1_rain_8 : decode cX1_rain 8 = .ok (.bipush (-2), 2) := by decide +kernel
theorem dX1_rain_10 : decode cX1_rain 10 = .ok (.ireturn, 1) := by decide +kernel
theorem dX1_rain_11 : decode cX1_rain 11 = .ok (.aload_n 0, 1) := by decide +kernel
theorem dX1_rain_12 : decode cX1_rain 12 = .ok (.getfield 39, 3) := by decide +kernel
theorem dX1_rain_15 : decode cX1_rain 15 = .ok (.ifCond .ne 6, 3) := by decide +kernel
theorem dX1_rain_18 : decode cX1_rain 18 = .ok (.bipush (-5), 2) := by decide +kernel
theorem dX1_rain_20 : decode cX1_rain 20 = .ok (.ireturn, 1) := by decide +kernel
theorem dX1_rain_21 : decode cX1_rain 21 = .ok (.iconst 0, 1) := by decide +kernel
theorem dX1_rain_22 : decode cX1_rain 22 = .ok (.istore_n 3, 1) := by decide +kernel
theorem dX1_rain_23 : decode cX1_rain 23 = .ok (.iload_n 3, 1) := by decide +kernel
theorem dX1_rain_24 : decode cX1_rain 24 = .ok (.aload_n 0, 1) := by decide +kernel
theorem dX1_rain_25 : decode cX1_rain 25 = .ok (.getfield 39, 3) := by decide +kernel
theorem dX1_rain_28 : decode cX1_rain 28 = .ok (.if_icmp .ge 22, 3) := by decide +kernel
theorem dX1_rain_31 : decode cX1_rain 31 = .ok (.aload_n 0, 1) := by decide +kernel
theorem dX1_rain_32 : decode cX1_rain 32 = .ok (.getfield 15, 3) := by decide +kernel
theorem dX1_rain_35 : decode cX1_rain 35 = .ok (.iload_n 3, 1) := by decide +kernel
theorem dX1_rain_36 : decode cX1_rain 36 = .ok (.aload_n 0, 1) := by decide +kernel
theorem dX1_rain_37 : decode cX1_rain 37 = .ok (.iload_n 3, 1) := by decide +kernel
theorem dX1_rain_38 : decode cX1_rain 38 = .ok (.iload_n 1, 1) := by decide +kernel
theorem dX1_rain_39 : decode cX1_rain 39 = .ok (.iload_n 2, 1) := by decide +kernel
theorem dX1_rain_40 : decode cX1_rain 40 = .ok (.invokevirtual 103, 3) := by decide +kernel
theorem dX1_rain_43 : decode cX1_rain 43 = .ok (.iastore, 1) := by decide +kernel
theorem dX1_rain_44 : decode cX1_rain 44 = .ok (.iinc 3 1, 3) := by decide +kernel
theorem dX1_rain_47 : decode cX1_rain 47 = .ok (.goto (-24), 3) := by decide +kernel
theorem dX1_rain_50 : decode cX1_rain 50 = .ok (.aload_n 0, 1) := by decide +kernel
theorem dX1_rain_51 : decode cX1_rain 51 = .ok (.dup, 1) := by decide +kernel
theorem dX1_rain_52 : decode cX1_rain 52 = .ok (.getfield 64, 3) := by decide +kernel
theorem dX1_rain_55 : decode cX1_rain 55 = .ok (.iconst 1, 1) := by decide +kernel
theorem dX1_rain_56 : decode cX1_rain 56 = .ok (.iadd, 1) := by decide +kernel
theorem dX1_rain_57 : decode cX1_rain 57 = .ok (.putfield 64, 3) := by decide +kernel
theorem dX1_rain_60 : decode cX1_rain 60 = .ok (.aload_n 0, 1) := by decide +kernel
theorem dX1_rain_61 : decode cX1_rain 61 = .ok (.invokevirtual 107, 3) := by decide +kernel
theorem dX1_rain_64 : decode cX1_rain 64 = .ok (.ireturn, 1) := by decide +kernel
set_option maxRecDepth 20000 in
theorem ggX1_dry_X3_isWithin : GoodIn wsX1_dry wsX3_isWithin := goodIn_r _ [12] (by decide +kernel) (by decide +kernel)
set_option maxRecDepth 20000 in
theorem gX1_dry_X3_isWithin_n70 : GoodIn wsX1_dry (wsX3_isWithin) := ggX1_dry_X3_isWithin
theorem dX1_dry_0 : decode cX1_dry 0 = .ok (.iload_n 1, 1) := by decide +kernel
theorem dX1_dry_1 : decode cX1_dry 1 = .ok (.iconst 1, 1) := by decide +kernel
theorem dX1_dry_2 : decode cX1_dry 2 = .ok (.bipush 99, 2) := by decide +kernel
theorem dX1_dry_4 : decode cX1_dry 4 = .ok (.invokestatic 70, 3) := by decide +kernel
theorem dX1_dry_7 : decode cX1_dry 7 = .ok (.ifCond .ne 6, 3) := by decide +kernel
theorem dX1_dry_10 : decode cX1_dry 10 = .ok (.bipush (-2), 2) := by decide +kernel
theorem dX1_dry_12 : decode cX1_dry 12 = .ok (.ireturn, 1) := by decide +kernel
theorem dX1_dry_13 : decode cX1_dry 13 = .ok (.aload_n 0, 1) := by decide +kernel
theorem dX1_dry_14 : decode cX1_dry 14 = .ok (.getfield 67, 3) := by decide +kernel
theorem dX1_dry_17 : decode cX1_dry 17 = .ok (.iload_n 1, 1) := by decide +kernel
theorem dX1_dry_18 : decode cX1_dry 18 = .ok (.iadd, 1) := by decide +kernel
theorem dX1_dry_19 : decode cX1_dry 19 = .ok (.ldc 111, 2) := by decide +kernel
theorem dX1_dry_21 : decode cX1_dry 21 = .ok (.if_icmp .le 6, 3) := by decide +kernel
theorem dX1_dry_24 : decode cX1_dry 24 = .ok (.bipush (-3), 2) := by decide +kernel
theorem dX1_dry_26 : decode cX1_dry 26 = .ok (.ireturn, 1) := by decide +kernel
theorem dX1_dry_27 : decode cX1_dry 27 = .ok (.aload_n 0, 1) := by decide +kernel
theorem dX1_dry_28 : decode cX1_dry 28 = .ok (.dup, 1) := by decide +kernel
theorem dX1_dry_29 : decode cX1_dry 29 = .ok (.getfield 67, 3) := by decide +kernel
theorem dX1_dry_32 : decode cX1_dry 32 = .ok (.iload_n 1, 1) := by decide +kernel
theorem dX1_dry_33 : decode cX1_dry 33 = .ok (.iadd, 1) := by decide +kernel
theorem dX1_dry_34 : decode cX1_dry 34 = .ok (.putfield 67, 3) := by decide +kernel
theorem dX1_dry_37 : decode cX1_dry 37 = .ok (.iconst 0, 1) := by decide +kernel
theorem dX1_dry_38 : decode cX1_dry 38 = .ok (.istore_n 2, 1) := by decide +kernel
theorem dX1_dry_39 : decode cX1_dry 39 = .ok (.iconst 0, 1) := by decide +kernel
theorem dX1_dry_40 : decode cX1_dry 40 = .ok (.istore_n 3, 1) := by decide +kernel
theorem dX1_dry_41 : decode cX1_dry 41 = .ok (.iload_n 3, 1) := by decide +kernel
theorem dX1_dry_42 : decode cX1_dry 42 = .ok (.aload_n 0, 1) := by decide +kernel
theorem dX1_dry_43 : decode cX1_dry 43 = .ok (.getfield 39, 3) := by decide +kernel
theorem dX1_dry_46 : decode cX1_dry 46 = .ok (.if_icmp .ge 46, 3) := by decide +kernel
theorem dX1_dry_49 : decode cX1_dry 49 = .ok (.aload_n 0, 1) := by decide +kernel
theorem dX1_dry_50 : decode cX1_dry 50 = .ok (.getfield 15, 3) := by decide +kernel
theorem dX1_dry_53 : decode cX1_dry 53 = .ok (.iload_n 3, 1) := by decide +kernel
theorem dX1_dry_54 : decode cX1_dry 54 = .ok (.iconst 0, 1) := by decide +kernel
theorem dX1_dry_55 : decode cX1_dry 55 = .ok (.aload_n 0, 1) := by decide +kernel
theorem dX1_dry_56 : decode cX1_dry 56 = .ok (.getfield 15, 3) := by decide +kernel
theorem dX1_dry_59 : decode cX1_dry 59 = .ok (.iload_n 3, 1) := by decide +kernel
theorem dX1_dry_60 : decode cX1_dry 60 = .ok (.iaload, 1) := by decide +kernel
theorem dX1_dry_61 : decode cX1_dry 61 = .ok (.iload_n 1, 1) := by decide +kernel
theorem dX1_dry_62 : decode cX1_dry 62 = .ok (.aload_n 0, 1) := by decide +kernel
theorem dX1_dry_63 : decode cX1_dry 63 = .ok (.getfield 30, 3) := by decide +kernel
theorem dX1_dry_66 : decode cX1_dry 66 = .ok (.iconst 0, 1) := by decide +kernel
theorem dX1_dry_67 : decode cX1_dry 67 = .ok (.iaload, 1) := by decide +kernel
theorem dX1_dry_68 : decode cX1_dry 68 = .ok (.imul, 1) := by decide +kernel
theorem dX1_dry_69 : decode cX1_dry 69 = .ok (.isub, 1) := by decide +kernel
theorem dX1_dry_70 : decode cX1_dry 70 = .ok (.invokestatic 112, 3) := by decide +kernel
theorem dX1_dry_73 : decode cX1_dry 73 = .ok (.iastore, 1) := by decide +kernel
theorem dX1_dry_74 : decode cX1_dry 74 = .ok (.aload_n 0, 1) := by decide +kernel
theorem dX1_dry_75 : decode cX1_dry 75 = .ok (.getfield 15, 3) := by decide +kernel
theorem dX1_dry_78 : decode cX1_dry 78 = .ok (.iload_n 3, 1) := by decide +kernel
theorem dX1_dry_79 : decode cX1_dry 79 = .ok (.iaload, 1) := by decide +kernel
theorem dX1_dry_80 : decode cX1_dry 80 = .ok (.ifCond .ne 6, 3) := by decide +kernel
theorem dX1_dry_83 : decode cX1_dry 83 = .ok (.iinc 2 1, 3) := by decide +kernel
theorem dX1_dry_86 : decode cX1_dry 86 = .ok (.iinc 3 1, 3) := by decide +kernel
theorem dX1_dry_89 : decode cX1_dry 89 = .ok (.goto (-48), 3) := by decide +kernel
theorem dX1_dry_92 : decode cX1_dry 92 = .ok (.iload_n 2, 1) := by decide +kernel
theorem dX1_dry_93 : decode cX1_dry 93 = .ok (.ireturn, 1) := by decide +kernel
set_option maxRecDepth 20000 in
theorem ggX1_serveFirst_X1_peopleToServe : GoodIn wsX1_serveFirst wsX1_peopleToServe := goodIn_r _ [9, 1, 10, 11, 12, 13, 14, 44, 45, 46, 47, 48, 49, 50, 51, 52, 53, 54, 55, 56, 57, 58, 59, 60] (by decide +kernel) (by decide +kernel)
set_option maxRecDepth 20000 in
theorem gX1_serveFirst_X1_peopleToServe : GoodIn wsX1_serveFirst (wsV RX1 118 RX1 yX1_peopleToServe wsX1_peopleToServe) := goodIn_app (goodIn_of _ (by decide +kernel)) ggX1_serveFirst_X1_peopleToServe
set_option maxRecDepth 20000 in
theorem ggX1_serveFirst_X1_driestToServe : GoodIn wsX1_serveFirst wsX1_driestToServe := goodIn_r _ [18, 19, 5, 6, 7, 8, 9, 1, 10, 11, 12, 13, 14, 44, 45, 46, 47, 48, 49, 50, 51, 52, 53, 54, 55, 56, 57, 58, 59, 60] (by decide +kernel) (by decide +kernel)
set_option maxRecDepth 20000 in
theorem gX1_serveFirst_X1_driestToServe : GoodIn wsX1_serveFirst (wsV RX1 121 RX1 yX1_driestToServe wsX1_driestToServe) := goodIn_app (goodIn_of _ (by decide +kernel)) ggX1_serveFirst_X1_driestToServe
set_option maxRecDepth 20000 in
theorem ggX1_serveFirst_X1_paidFrom : GoodIn wsX1_serveFirst wsX1_paidFrom := goodIn_r _ [23, 24, 11, 12, 13, 14, 25, 26, 27, 8, 28, 10, 5, 6, 7, 9, 1, 44, 45, 46, 47, 48, 49, 50, 51, 52, 53, 54, 55, 56, 57, 58, 59, 60] (by decide +kernel) (by decide +kernel)
set_option maxRecDepth 20000 in
theorem gX1_serveFirst_X1_paidFrom : GoodIn wsX1_serveFirst (wsV RX1 124 RX1 yX1_paidFrom wsX1_paidFrom) := goodIn_app (goodIn_of _ (by decide +kernel)) ggX1_serveFirst_X1_paidFrom
set_option maxRecDepth 20000 in
theorem ggX1_serveFirst_X1_fareForAll : GoodIn wsX1_serveFirst wsX1_fareForAll := goodIn_r _ [28, 10, 5, 6, 7, 8, 9, 1, 11, 12, 13, 14, 44, 45, 46, 47, 48, 49, 50, 51, 52, 53, 54, 55, 56, 57, 58, 59, 60] (by decide +kernel) (by decide +kernel)
set_option maxRecDepth 20000 in
theorem gX1_serveFirst_X1_fareForAll : GoodIn wsX1_serveFirst (wsV RX1 127 RX1 yX1_fareForAll wsX1_fareForAll) := goodIn_app (goodIn_of _ (by decide +kernel)) ggX1_serveFirst_X1_fareForAll
set_option maxRecDepth 20000 in
theorem ggX1_serveFirst_X1_remove : GoodIn wsX1_serveFirst wsX1_remove := goodIn_r _ [32, 33, 19, 34, 24, 35, 36, 1, 37, 38, 8, 39, 40, 41, 42, 43, 44, 45, 46, 47, 48, 49, 50, 51, 52, 53, 54, 55, 56, 57, 58, 59, 60] (by decide +kernel) (by decide +kernel)
set_option maxRecDepth 20000 in
theorem gX1_serveFirst_X1_remove : GoodIn wsX1_serveFirst (wsV RX1 78 RX1 yX1_remove wsX1_remove) := goodIn_app (goodIn_of _ (by decide +kernel)) ggX1_serveFirst_X1_remove
theorem dX1_serveFirst_0 : decode cX1_serveFirst 0 = .ok (.aload_n 0, 1) := by decide +kernel
theorem dX1_serveFirst_1 : decode cX1_serveFirst 1 = .ok (.getfield 39, 3) := by decide +kernel
theorem dX1_serveFirst_4 : decode cX1_serveFirst 4 = .ok (.ifCond .ne 6, 3) := by decide +kernel
theorem dX1_serveFirst_7 : decode cX1_serveFirst 7 = .ok (.bipush (-5), 2) := by decide +kernel
theorem dX1_serveFirst_9 : decode cX1_serveFirst 9 = .ok (.ireturn, 1) := by decide +kernel
theorem dX1_serveFirst_10 : decode cX1_serveFirst 10 = .ok (.aload_n 0, 1) := by decide +kernel
theorem dX1_serveFirst_11 : decode cX1_serveFirst 11 = .ok (.invokevirtual 118, 3) := by decide +kernel
theorem dX1_serveFirst_14 : decode cX1_serveFirst 14 = .ok (.istore_n 1, 1) := by decide +kernel
theorem dX1_serveFirst_15 : decode cX1_serveFirst 15 = .ok (.aload_n 0, 1) := by decide +kernel
theorem dX1_serveFirst_16 : decode cX1_serveFirst 16 = .ok (.aload_n 0, 1) := by decide +kernel
theorem dX1_serveFirst_17 : decode cX1_serveFirst 17 = .ok (.invokevirtual 121, 3) := by decide +kernel
theorem dX1_serveFirst_20 : decode cX1_serveFirst 20 = .ok (.invokevirtual 124, 3) := by decide +kernel
theorem dX1_serveFirst_23 : decode cX1_serveFirst 23 = .ok (.istore_n 2, 1) := by decide +kernel
theorem dX1_serveFirst_24 : decode cX1_serveFirst 24 = .ok (.aload_n 0, 1) := by decide +kernel
theorem dX1_serveFirst_25 : decode cX1_serveFirst 25 = .ok (.dup, 1) := by decide +kernel
theorem dX1_serveFirst_26 : decode cX1_serveFirst 26 = .ok (.getfield 55, 3) := by decide +kernel
theorem dX1_serveFirst_29 : decode cX1_serveFirst 29 = .ok (.iload_n 2, 1) := by decide +kernel
theorem dX1_serveFirst_30 : decode cX1_serveFirst 30 = .ok (.iadd, 1) := by decide +kernel
theorem dX1_serveFirst_31 : decode cX1_serveFirst 31 = .ok (.putfield 55, 3) := by decide +kernel
theorem dX1_serveFirst_34 : decode cX1_serveFirst 34 = .ok (.aload_n 0, 1) := by decide +kernel
theorem dX1_serveFirst_35 : decode cX1_serveFirst 35 = .ok (.dup, 1) := by decide +kernel
theorem dX1_serveFirst_36 : decode cX1_serveFirst 36 = .ok (.getfield 58, 3) := by decide +kernel
theorem dX1_serveFirst_39 : decode cX1_serveFirst 39 = .ok (.aload_n 0, 1) := by decide +kernel
theorem dX1_serveFirst_40 : decode cX1_serveFirst 40 = .ok (.invokevirtual 127, 3) := by decide +kernel
theorem dX1_serveFirst_43 : decode cX1_serveFirst 43 = .ok (.iload_n 2, 1) := by decide +kernel
theorem dX1_serveFirst_44 : decode cX1_serveFirst 44 = .ok (.isub, 1) := by decide +kernel
theorem dX1_serveFirst_45 : decode cX1_serveFirst 45 = .ok (.iadd, 1) := by decide +kernel
theorem dX1_serveFirst_46 : decode cX1_serveFirst 46 = .ok (.putfield 58, 3) := by decide +kernel
theorem dX1_serveFirst_49 : decode cX1_serveFirst 49 = .ok (.aload_n 0, 1) := by decide +kernel
theorem dX1_serveFirst_50 : decode cX1_serveFirst 50 = .ok (.dup, 1) := by decide +kernel
theorem dX1_serveFirst_51 : decode cX1_serveFirst 51 = .ok (.getfield 52, 3) := by decide +kernel
theorem dX1_serveFirst_54 : decode cX1_serveFirst 54 = .ok (.iload_n 1, 1) := by decide +kernel
theorem dX1_serveFirst_55 : decode cX1_serveFirst 55 = .ok (.iadd, 1) := by decide +kernel
theorem dX1_serveFirst_56 : decode cX1_serveFirst 56 = .ok (.putfield 52, 3) := by decide +kernel
theorem dX1_serveFirst_59 : decode cX1_serveFirst 59 = .ok (.iload_n 1, 1) := by decide +kernel
theorem dX1_serveFirst_60 : decode cX1_serveFirst 60 = .ok (.iconst 1, 1) := by decide +kernel
theorem dX1_serveFirst_61 : decode cX1_serveFirst 61 = .ok (.isub, 1) := by decide +kernel
theorem dX1_serveFirst_62 : decode cX1_serveFirst 62 = .ok (.istore_n 3, 1) := by decide +kernel
theorem dX1_serveFirst_63 : decode cX1_serveFirst 63 = .ok (.iload_n 3, 1) := by decide +kernel
theorem dX1_serveFirst_64 : decode cX1_serveFirst 64 = .ok (.ifCond .lt 14, 3) := by decide +kernel
theorem dX1_serveFirst_67 : decode cX1_serveFirst 67 = .ok (.aload_n 0, 1) := by decide +kernel
theorem dX1_serveFirst_68 : decode cX1_serveFirst 68 = .ok (.iload_n 3, 1) := by decide +kernel
theorem dX1_serveFirst_69 : decode cX1_serveFirst 69 = .ok (.invokevirtual 78, 3) := by decide +kernel
theorem dX1_serveFirst_72 : decode cX1_serveFirst 72 = .ok (.iinc 3 (-1), 3) := by decide +kernel
theorem dX1_serveFirst_75 : decode cX1_serveFirst 75 = .ok (.goto (-12), 3) := by decide +kernel
theorem dX1_serveFirst_78 : decode cX1_serveFirst 78 = .ok (.iload_n 2, 1) := by decide +kernel
theorem dX1_serveFirst_79 : decode cX1_serveFirst 79 = .ok (.ireturn, 1) := by decide +kernel
set_option maxRecDepth 20000 in
theorem ggX1_removeSoaked_X1_remove : GoodIn wsX1_removeSoaked wsX1_remove := goodIn_r _ [9, 10, 2, 3, 11, 12, 13, 1, 14, 15, 8, 16, 17, 18, 19, 20, 21, 22, 23, 24, 25, 26, 27, 28, 29, 30, 31, 32, 33, 34, 35, 36, 37] (by decide +kernel) (by decide +kernel)
set_option maxRecDepth 20000 in
theorem gX1_removeSoaked_X1_remove : GoodIn wsX1_removeSoaked (wsV RX1 78 RX1 yX1_remove wsX1_remove) := goodIn_app (goodIn_of _ (by decide +kernel)) ggX1_removeSoaked_X1_remove
theorem dX1_removeSoaked_0 : decode cX1_removeSoaked 0 = .ok (.aload_n 0, 1) := by decide +kernel
theorem dX1_removeSoaked_1 : decode cX1_removeSoaked 1 = .ok (.getfield 39, 3) := by decide +kernel
theorem dX1_removeSoaked_4 : decode cX1_removeSoaked 4 = .ok (.istore_n 1, 1) := by decide +kernel
theorem dX1_removeSoaked_5 : decode cX1_removeSoaked 5 = .ok (.aload_n 0, 1) := by decide +kernel
theorem dX1_removeSoaked_6 : decode cX1_removeSoaked 6 = .ok (.getfield 39, 3) := by decide +kernel
theorem dX1_removeSoaked_9 : decode cX1_removeSoaked 9 = .ok (.iconst 1, 1) := by decide +kernel
theorem dX1_removeSoaked_10 : decode cX1_removeSoaked 10 = .ok (.isub, 1) := by decide +kernel
theorem dX1_removeSoaked_11 : decode cX1_removeSoaked 11 = .ok (.istore_n 2, 1) := by decide +kernel
theorem dX1_removeSoaked_12 : decode cX1_removeSoaked 12 = .ok (.iload_n 2, 1) := by decide +kernel
theorem dX1_removeSoaked_13 : decode cX1_removeSoaked 13 = .ok (.ifCond .lt 29, 3) := by decide +kernel
theorem dX1_removeSoaked_16 : decode cX1_removeSoaked 16 = .ok (.aload_n 0, 1) := by decide +kernel
theorem dX1_removeSoaked_17 : decode cX1_removeSoaked 17 = .ok (.getfield 15, 3) := by decide +kernel
theorem dX1_removeSoaked_20 : decode cX1_removeSoaked 20 = .ok (.iload_n 2, 1) := by decide +kernel
theorem dX1_removeSoaked_21 : decode cX1_removeSoaked 21 = .ok (.iaload, 1) := by decide +kernel
theorem dX1_removeSoaked_22 : decode cX1_removeSoaked 22 = .ok (.aload_n 0, 1) := by decide +kernel
theorem dX1_removeSoaked_23 : decode cX1_removeSoaked 23 = .ok (.getfield 18, 3) := by decide +kernel
theorem dX1_removeSoaked_26 : decode cX1_removeSoaked 26 = .ok (.iload_n 2, 1) := by decide +kernel
theorem dX1_removeSoaked_27 : decode cX1_removeSoaked 27 = .ok (.iaload, 1) := by decide +kernel
theorem dX1_removeSoaked_28 : decode cX1_removeSoaked 28 = .ok (.if_icmp .le 8, 3) := by decide +kernel
theorem dX1_removeSoaked_31 : decode cX1_removeSoaked 31 = .ok (.aload_n 0, 1) := by decide +kernel
theorem dX1_removeSoaked_32 : decode cX1_removeSoaked 32 = .ok (.iload_n 2, 1) := by decide +kernel
theorem dX1_removeSoaked_33 : decode cX1_removeSoaked 33 = .ok (.invokevirtual 78, 3) := by decide +kernel
theorem dX1_removeSoaked_36 : decode cX1_removeSoaked 36 = .ok (.iinc 2 (-1), 3) := by decide +kernel
theorem dX1_removeSoaked_39 : decode cX1_removeSoaked 39 = .ok (.goto (-27), 3) := by decide +kernel
theorem dX1_removeSoaked_42 : decode cX1_removeSoaked 42 = .ok (.aload_n 0, 1) := by decide +kernel
theorem dX1_removeSoaked_43 : decode cX1_removeSoaked 43 = .ok (.dup, 1) := by decide +kernel
theorem dX1_removeSoaked_44 : decode cX1_removeSoaked 44 = .ok (.getfield 49, 3) := by decide +kernel
theorem dX1_removeSoaked_47 : decode cX1_removeSoaked 47 = .ok (.iload_n 1, 1) := by decide +kernel
theorem dX1_removeSoaked_48 : decode cX1_removeSoaked 48 = .ok (.aload_n 0, 1) := by decide +kernel
theorem dX1_removeSoaked_49 : decode cX1_removeSoaked 49 = .ok (.getfield 39, 3) := by decide +kernel
theorem dX1_removeSoaked_52 : decode cX1_removeSoaked 52 = .ok (.isub, 1) := by decide +kernel
theorem dX1_removeSoaked_53 : decode cX1_removeSoaked 53 = .ok (.iadd, 1) := by decide +kernel
theorem dX1_removeSoaked_54 : decode cX1_removeSoaked 54 = .ok (.putfield 49, 3) := by decide +kernel
theorem dX1_removeSoaked_57 : decode cX1_removeSoaked 57 = .ok (.iload_n 1, 1) := by decide +kernel
theorem dX1_removeSoaked_58 : decode cX1_removeSoaked 58 = .ok (.aload_n 0, 1) := by decide +kernel
theorem dX1_removeSoaked_59 : decode cX1_removeSoaked 59 = .ok (.getfield 39, 3) := by decide +kernel
theorem dX1_removeSoaked_62 : decode cX1_removeSoaked 62 = .ok (.isub, 1) := by decide +kernel
theorem dX1_removeSoaked_63 : decode cX1_removeSoaked 63 = .ok (.ireturn, 1) := by decide +kernel
set_option maxRecDepth 20000 in
theorem ggX1_remove_X1_closeGap : GoodIn wsX1_remove wsX1_closeGap := goodIn_r _ [11, 12, 13, 14, 15] (by decide +kernel) (by decide +kernel)
set_option maxRecDepth 20000 in
theorem gX1_remove_X1_closeGap : GoodIn wsX1_remove (va_wsS RX1 130 yX1_closeGap wsX1_closeGap) := goodIn_app (goodIn_of _ (by decide +kernel)) ggX1_remove_X1_closeGap
theorem dX1_remove_0 : decode cX1_remove 0 = .ok (.aload_n 0, 1) := by decide +kernel
theorem dX1_remove_1 : decode cX1_remove 1 = .ok (.getfield 9, 3) := by decide +kernel
theorem dX1_remove_4 : decode cX1_remove 4 = .ok (.iload_n 1, 1) := by decide +kernel
theorem dX1_remove_5 : decode cX1_remove 5 = .ok (.invokestatic 130, 3) := by decide +kernel
theorem dX1_remove_8 : decode cX1_remove 8 = .ok (.aload_n 0, 1) := by decide +kernel
theorem dX1_remove_9 : decode cX1_remove 9 = .ok (.getfield 15, 3) := by decide +kernel
theorem dX1_remove_12 : decode cX1_remove 12 = .ok (.iload_n 1, 1) := by decide +kernel
theorem dX1_remove_13 : decode cX1_remove 13 = .ok (.invokestatic 130, 3) := by decide +kernel
theorem dX1_remove_16 : decode cX1_remove 16 = .ok (.aload_n 0, 1) := by decide +kernel
theorem dX1_remove_17 : decode cX1_remove 17 = .ok (.getfield 18, 3) := by decide +kernel
theorem dX1_remove_20 : decode cX1_remove 20 = .ok (.iload_n 1, 1) := by decide +kernel
theorem dX1_remove_21 : decode cX1_remove 21 = .ok (.invokestatic 130, 3) := by decide +kernel
theorem dX1_remove_24 : decode cX1_remove 24 = .ok (.aload_n 0, 1) := by decide +kernel
theorem dX1_remove_25 : decode cX1_remove 25 = .ok (.getfield 21, 3) := by decide +kernel
theorem dX1_remove_28 : decode cX1_remove 28 = .ok (.iload_n 1, 1) := by decide +kernel
theorem dX1_remove_29 : decode cX1_remove 29 = .ok (.invokestatic 130, 3) := by decide +kernel
theorem dX1_remove_32 : decode cX1_remove 32 = .ok (.aload_n 0, 1) := by decide +kernel
theorem dX1_remove_33 : decode cX1_remove 33 = .ok (.getfield 24, 3) := by decide +kernel
theorem dX1_remove_36 : decode cX1_remove 36 = .ok (.iload_n 1, 1) := by decide +kernel
theorem dX1_remove_37 : decode cX1_remove 37 = .ok (.invokestatic 130, 3) := by decide +kernel
theorem dX1_remove_40 : decode cX1_remove 40 = .ok (.aload_n 0, 1) := by decide +kernel
theorem dX1_remove_41 : decode cX1_remove 41 = .ok (.getfield 27, 3) := by decide +kernel
theorem dX1_remove_44 : decode cX1_remove 44 = .ok (.iload_n 1, 1) := by decide +kernel
theorem dX1_remove_45 : decode cX1_remove 45 = .ok (.invokestatic 130, 3) := by decide +kernel
theorem dX1_remove_48 : decode cX1_remove 48 = .ok (.aload_n 0, 1) := by decide +kernel
theorem dX1_remove_49 : decode cX1_remove 49 = .ok (.dup, 1) := by decide +kernel
theorem dX1_remove_50 : decode cX1_remove 50 = .ok (.getfield 39, 3) := by decide +kernel
theorem dX1_remove_53 : decode cX1_remove 53 = .ok (.iconst 1, 1) := by decide +kernel
theorem dX1_remove_54 : decode cX1_remove 54 = .ok (.isub, 1) := by decide +kernel
theorem dX1_remove_55 : decode cX1_remove 55 = .ok (.putfield 39, 3) := by decide +kernel
theorem dX1_remove_58 : decode cX1_remove 58 = .ok (.return_, 1) := by decide +kernel
theorem dX1_closeGap_0 : decode cX1_closeGap 0 = .ok (.aload_n 0, 1) := by decide +kernel
theorem dX1_closeGap_1 : decode cX1_closeGap 1 = .ok (.iload_n 1, 1) := by decide +kernel
theorem dX1_closeGap_2 : decode cX1_closeGap 2 = .ok (.iconst 1, 1) := by decide +kernel
theorem dX1_closeGap_3 : decode cX1_closeGap 3 = .ok (.iadd, 1) := by decide +kernel
theorem dX1_closeGap_4 : decode cX1_closeGap 4 = .ok (.aload_n 0, 1) := by decide +kernel
theorem dX1_closeGap_5 : decode cX1_closeGap 5 = .ok (.iload_n 1, 1) := by decide +kernel
theorem dX1_closeGap_6 : decode cX1_closeGap 6 = .ok (.bipush 15, 2) := by decide +kernel
theorem dX1_closeGap_8 : decode cX1_closeGap 8 = .ok (.iload_n 1, 1) := by decide +kernel
theorem dX1_closeGap_9 : decode cX1_closeGap 9 = .ok (.isub, 1) := by decide +kernel
theorem dX1_closeGap_10 : decode cX1_closeGap 10 = .ok (.invokestatic 33, 3) := by decide +kernel
theorem dX1_closeGap_13 : decode cX1_closeGap 13 = .ok (.return_, 1) := by decide +kernel
theorem dX1_exchange_0 : decode cX1_exchange 0 = .ok (.aload_n 0, 1) := by decide +kernel
theorem dX1_exchange_1 : decode cX1_exchange 1 = .ok (.iload_n 1, 1) := by decide +kernel
theorem dX1_exchange_2 : decode cX1_exchange 2 = .ok (.iaload, 1) := by decide +kernel
theorem dX1_exchange_3 : decode cX1_exchange 3 = .ok (.istore_n 2, 1) := by decide +kernel
theorem dX1_exchange_4 : decode cX1_exchange 4 = .ok (.aload_n 0, 1) := by decide +kernel
theorem dX1_exchange_5 : decode cX1_exchange 5 = .ok (.iload_n 1, 1) := by decide +kernel
theorem dX1_exchange_6 : decode cX1_exchange 6 = .ok (.aload_n 0, 1) := by decide +kernel
theorem dX1_exchange_7 : decode cX1_exchange 7 = .ok (.iload_n 1, 1) := by decide +kernel
theorem dX1_exchange_8 : decode cX1_exchange 8 = .ok (.iconst 1, 1) := by decide +kernel
theorem dX1_exchange_9 : decode cX1_exchange 9 = .ok (.iadd, 1) := by decide +kernel
theorem dX1_exchange_10 : decode cX1_exchange 10 = .ok (.iaload, 1) := by decide +kernel
theorem dX1_exchange_11 : decode cX1_exchange 11 = .ok (.iastore, 1) := by decide +kernel
theorem dX1_exchange_12 : decode cX1_exchange 12 = .ok (.aload_n 0, 1) := by decide +kernel
theorem dX1_exchange_13 : decode cX1_exchange 13 = .ok (.iload_n 1, 1) := by decide +kernel
theorem dX1_exchange_14 : decode cX1_exchange 14 = .ok (.iconst 1, 1) := by decide +kernel
theorem dX1_exchange_15 : decode cX1_exchange 15 = .ok (.iadd, 1) := by decide +kernel
theorem dX1_exchange_16 : decode cX1_exchange 16 = .ok (.iload_n 2, 1) := by decide +kernel
theorem dX1_exchange_17 : decode cX1_exchange 17 = .ok (.iastore, 1) := by decide +kernel
theorem dX1_exchange_18 : decode cX1_exchange 18 = .ok (.return_, 1) := by decide +kernel
theorem dX1_leastReached_0 : decode cX1_leastReached 0 = .ok (.iconst 0, 1) := by decide +kernel
theorem dX1_leastReached_1 : decode cX1_leastReached 1 = .ok (.iload_n 1, 1) := by decide +kernel
theorem dX1_leastReached_2 : decode cX1_leastReached 2 = .ok (.aload_n 0, 1) := by decide +kernel
theorem dX1_leastReached_3 : decode cX1_leastReached 3 = .ok (.getfield 24, 3) := by decide +kernel
theorem dX1_leastReached_6 : decode cX1_leastReached 6 = .ok (.iload_n 1, 1) := by decide +kernel
theorem dX1_leastReached_7 : decode cX1_leastReached 7 = .ok (.iaload, 1) := by decide +kernel
theorem dX1_leastReached_8 : decode cX1_leastReached 8 = .ok (.iconst 2, 1) := by decide +kernel
theorem dX1_leastReached_9 : decode cX1_leastReached 9 = .ok (.idiv, 1) := by decide +kernel
theorem dX1_leastReached_10 : decode cX1_leastReached 10 = .ok (.isub, 1) := by decide +kernel
theorem dX1_leastReached_11 : decode cX1_leastReached 11 = .ok (.invokestatic 112, 3) := by decide +kernel
theorem dX1_leastReached_14 : decode cX1_leastReached 14 = .ok (.ireturn, 1) := by decide +kernel
theorem dX1_greatestReached_0 : decode cX1_greatestReached 0 = .ok (.aload_n 0, 1) := by decide +kernel
theorem dX1_greatestReached_1 : decode cX1_greatestReached 1 = .ok (.getfield 39, 3) := by decide +kernel
theorem dX1_greatestReached_4 : decode cX1_greatestReached 4 = .ok (.iconst 1, 1) := by decide +kernel
theorem dX1_greatestReached_5 : decode cX1_greatestReached 5 = .ok (.isub, 1) := by decide +kernel
theorem dX1_greatestReached_6 : decode cX1_greatestReached 6 = .ok (.iload_n 1, 1) := by decide +kernel
theorem dX1_greatestReached_7 : decode cX1_greatestReached 7 = .ok (.aload_n 0, 1) := by decide +kernel
theorem dX1_greatestReached_8 : decode cX1_greatestReached 8 = .ok (.getfield 24, 3) := by decide +kernel
theorem dX1_greatestReached_11 : decode cX1_greatestReached 11 = .ok (.iload_n 1, 1) := by decide +kernel
theorem dX1_greatestReached_12 : decode cX1_greatestReached 12 = .ok (.iaload, 1) := by decide +kernel
theorem dX1_greatestReached_13 : decode cX1_greatestReached 13 = .ok (.iconst 1, 1) := by decide +kernel
theorem dX1_greatestReached_14 : decode cX1_greatestReached 14 = .ok (.isub, 1) := by decide +kernel
theorem dX1_greatestReached_15 : decode cX1_greatestReached 15 = .ok (.iconst 2, 1) := by decide +kernel
theorem dX1_greatestReached_16 : decode cX1_greatestReached 16 = .ok (.idiv, 1) := by decide +kernel
theorem dX1_greatestReached_17 : decode cX1_greatestReached 17 = .ok (.iadd, 1) := by decide +kernel
theorem dX1_greatestReached_18 : decode cX1_greatestReached 18 = .ok (.invokestatic 133, 3) := by decide +kernel
theorem dX1_greatestReached_21 : decode cX1_greatestReached 21 = .ok (.ireturn, 1) := by decide +kernel
set_option maxRecDepth 20000 in
theorem ggX1_umbrellasOver_X1_leastReached : GoodIn wsX1_umbrellasOver wsX1_leastReached := goodIn_r _ [7, 2, 8, 9, 10, 11, 22, 23, 24, 25, 26, 27, 28, 29, 30, 31, 32, 33, 34, 35, 36, 37, 38] (by decide +kernel) (by decide +kernel)
set_option maxRecDepth 20000 in
theorem gX1_umbrellasOver_X1_leastReached : GoodIn wsX1_umbrellasOver (wsV RX1 136 RX1 yX1_leastReached wsX1_leastReached) := goodIn_app (goodIn_of _ (by decide +kernel)) ggX1_umbrellasOver_X1_leastReached
set_option maxRecDepth 20000 in
theorem ggX1_umbrellasOver_X1_greatestReached : GoodIn wsX1_umbrellasOver wsX1_greatestReached := goodIn_r _ [15, 1, 2, 16, 17, 10, 18, 22, 23, 24, 25, 26, 27, 28, 29, 30, 31, 32, 33, 34, 35, 36, 37, 38] (by decide +kernel) (by decide +kernel)
set_option maxRecDepth 20000 in
theorem gX1_umbrellasOver_X1_greatestReached : GoodIn wsX1_umbrellasOver (wsV RX1 139 RX1 yX1_greatestReached wsX1_greatestReached) := goodIn_app (goodIn_of _ (by decide +kernel)) ggX1_umbrellasOver_X1_greatestReached
set_option maxRecDepth 20000 in
theorem ggX1_umbrellasOver_X3_isWithin : GoodIn wsX1_umbrellasOver wsX3_isWithin := goodIn_r _ [21] (by decide +kernel) (by decide +kernel)
set_option maxRecDepth 20000 in
theorem gX1_umbrellasOver_X3_isWithin_n70 : GoodIn wsX1_umbrellasOver (wsX3_isWithin) := ggX1_umbrellasOver_X3_isWithin
theorem dX1_umbrellasOver_0 : decode cX1_umbrellasOver 0 = .ok (.iconst 0, 1) := by decide +kernel
theorem dX1_umbrellasOver_1 : decode cX1_umbrellasOver 1 = .ok (.istore_n 2, 1) := by decide +kernel
theorem dX1_umbrellasOver_2 : decode cX1_umbrellasOver 2 = .ok (.iconst 0, 1) := by decide +kernel
theorem dX1_umbrellasOver_3 : decode cX1_umbrellasOver 3 = .ok (.istore_n 3, 1) := by decide +kernel
theorem dX1_umbrellasOver_4 : decode cX1_umbrellasOver 4 = .ok (.iload_n 3, 1) := by decide +kernel
theorem dX1_umbrellasOver_5 : decode cX1_umbrellasOver 5 = .ok (.aload_n 0, 1) := by decide +kernel
theorem dX1_umbrellasOver_6 : decode cX1_umbrellasOver 6 = .ok (.getfield 39, 3) := by decide +kernel
theorem dX1_umbrellasOver_9 : decode cX1_umbrellasOver 9 = .ok (.if_icmp .ge 38, 3) := by decide +kernel
theorem dX1_umbrellasOver_12 : decode cX1_umbrellasOver 12 = .ok (.aload_n 0, 1) := by decide +kernel
theorem dX1_umbrellasOver_13 : decode cX1_umbrellasOver 13 = .ok (.getfield 24, 3) := by decide +kernel
theorem dX1_umbrellasOver_16 : decode cX1_umbrellasOver 16 = .ok (.iload_n 3, 1) := by decide +kernel
theorem dX1_umbrellasOver_17 : decode cX1_umbrellasOver 17 = .ok (.iaload, 1) := by decide +kernel
theorem dX1_umbrellasOver_18 : decode cX1_umbrellasOver 18 = .ok (.ifCond .le 23, 3) := by decide +kernel
theorem dX1_umbrellasOver_21 : decode cX1_umbrellasOver 21 = .ok (.iload_n 1, 1) := by decide +kernel
theorem dX1_umbrellasOver_22 : decode cX1_umbrellasOver 22 = .ok (.aload_n 0, 1) := by decide +kernel
theorem dX1_umbrellasOver_23 : decode cX1_umbrellasOver 23 = .ok (.iload_n 3, 1) := by decide +kernel
theorem dX1_umbrellasOver_24 : decode cX1_umbrellasOver 24 = .ok (.invokevirtual 136, 3) := by decide +kernel
theorem dX1_umbrellasOver_27 : decode cX1_umbrellasOver 27 = .ok (.aload_n 0, 1) := by decide +kernel
theorem dX1_umbrellasOver_28 : decode cX1_umbrellasOver 28 = .ok (.iload_n 3, 1) := by decide +kernel
theorem dX1_umbrellasOver_29 : decode cX1_umbrellasOver 29 = .ok (.invokevirtual 139, 3) := by decide +kernel
theorem dX1_umbrellasOver_32 : decode cX1_umbrellasOver 32 = .ok (.invokestatic 70, 3) := by decide +kernel
theorem dX1_umbrellasOver_35 : decode cX1_umbrellasOver 35 = .ok (.ifCond .eq 6, 3) := by decide +kernel
theorem dX1_umbrellasOver_38 : decode cX1_umbrellasOver 38 = .ok (.iinc 2 1, 3) := by decide +kernel
theorem dX1_umbrellasOver_41 : decode cX1_umbrellasOver 41 = .ok (.iinc 3 1, 3) := by decide +kernel
theorem dX1_umbrellasOver_44 : decode cX1_umbrellasOver 44 = .ok (.goto (-40), 3) := by decide +kernel
theorem dX1_umbrellasOver_47 : decode cX1_umbrellasOver 47 = .ok (.iload_n 2, 1) := by decide +kernel
theorem dX1_umbrellasOver_48 : decode cX1_umbrellasOver 48 = .ok (.ireturn, 1) := by decide +kernel
set_option maxRecDepth 20000 in
theorem ggX1_umbrellasRunningOnto_X1_leastReached : GoodIn wsX1_umbrellasRunningOnto wsX1_leastReached := goodIn_r _ [7, 2, 8, 9, 10, 11, 19, 20, 21, 22, 23, 24, 25, 26, 27, 28, 29, 30, 31, 32, 33, 34, 35] (by decide +kernel) (by decide +kernel)
set_option maxRecDepth 20000 in
theorem gX1_umbrellasRunningOnto_X1_leastReached : GoodIn wsX1_umbrellasRunningOnto (wsV RX1 136 RX1 yX1_leastReached wsX1_leastReached) := goodIn_app (goodIn_of _ (by decide +kernel)) ggX1_umbrellasRunningOnto_X1_leastReached
set_option maxRecDepth 20000 in
theorem ggX1_umbrellasRunningOnto_X1_greatestReached : GoodIn wsX1_umbrellasRunningOnto wsX1_greatestReached := goodIn_r _ [15, 1, 2, 16, 17, 10, 18, 19, 20, 21, 22, 23, 24, 25, 26, 27, 28, 29, 30, 31, 32, 33, 34, 35] (by decide +kernel) (by decide +kernel)
set_option maxRecDepth 20000 in
theorem gX1_umbrellasRunningOnto_X1_greatestReached : GoodIn wsX1_umbrellasRunningOnto (wsV RX1 139 RX1 yX1_greatestReached wsX1_greatestReached) := goodIn_app (goodIn_of _ (by decide +kernel)) ggX1_umbrellasRunningOnto_X1_greatestReached
theorem dX1_umbrellasRunningOnto_0 : decode cX1_umbrellasRunningOnto 0 = .ok (.iconst 0, 1) := by decide +kernel
theorem dX1_umbrellasRunningOnto_1 : decode cX1_umbrellasRunningOnto 1 = .ok (.istore_n 2, 1) := by decide +kernel
theorem dX1_umbrellasRunningOnto_2 : decode cX1_umbrellasRunningOnto 2 = .ok (.iconst 0, 1) := by decide +kernel
theorem dX1_umbrellasRunningOnto_3 : decode cX1_umbrellasRunningOnto 3 = .ok (.istore_n 3, 1) := by decide +kernel
theorem dX1_umbrellasRunningOnto_4 : decode cX1_umbrellasRunningOnto 4 = .ok (.iload_n 3, 1) := by decide +kernel
theorem dX1_umbrellasRunningOnto_5 : decode cX1_umbrellasRunningOnto 5 = .ok (.aload_n 0, 1) := by decide +kernel
theorem dX1_umbrellasRunningOnto_6 : decode cX1_umbrellasRunningOnto 6 = .ok (.getfield 39, 3) := by decide +kernel
theorem dX1_umbrellasRunningOnto_9 : decode cX1_umbrellasRunningOnto 9 = .ok (.if_icmp .ge 43, 3) := by decide +kernel
theorem dX1_umbrellasRunningOnto_12 : decode cX1_umbrellasRunningOnto 12 = .ok (.aload_n 0, 1) := by decide +kernel
theorem dX1_umbrellasRunningOnto_13 : decode cX1_umbrellasRunningOnto 13 = .ok (.getfield 24, 3) := by decide +kernel
theorem dX1_umbrellasRunningOnto_16 : decode cX1_umbrellasRunningOnto 16 = .ok (.iload_n 3, 1) := by decide +kernel
theorem dX1_umbrellasRunningOnto_17 : decode cX1_umbrellasRunningOnto 17 = .ok (.iaload, 1) := by decide +kernel
theorem dX1_umbrellasRunningOnto_18 : decode cX1_umbrellasRunningOnto 18 = .ok (.ifCond .le 28, 3) := by decide +kernel
theorem dX1_umbrellasRunningOnto_21 : decode cX1_umbrellasRunningOnto 21 = .ok (.iload_n 1, 1) := by decide +kernel
theorem dX1_umbrellasRunningOnto_22 : decode cX1_umbrellasRunningOnto 22 = .ok (.aload_n 0, 1) := by decide +kernel
theorem dX1_umbrellasRunningOnto_23 : decode cX1_umbrellasRunningOnto 23 = .ok (.iload_n 3, 1) := by decide +kernel
theorem dX1_umbrellasRunningOnto_24 : decode cX1_umbrellasRunningOnto 24 = .ok (.invokevirtual 136, 3) := by decide +kernel
theorem dX1_umbrellasRunningOnto_27 : decode cX1_umbrellasRunningOnto 27 = .ok (.iconst 1, 1) := by decide +kernel
theorem dX1_umbrellasRunningOnto_28 : decode cX1_umbrellasRunningOnto 28 = .ok (.isub, 1) := by decide +kernel
theorem dX1_umbrellasRunningOnto_29 : decode cX1_umbrellasRunningOnto 29 = .ok (.if_icmp .eq 14, 3) := by decide +kernel
theorem dX1_umbrellasRunningOnto_32 : decode cX1_umbrellasRunningOnto 32 = .ok (.iload_n 1, 1) := by decide +kernel
theorem dX1_umbrellasRunningOnto_33 : decode cX1_umbrellasRunningOnto 33 = .ok (.aload_n 0, 1) := by decide +kernel
theorem dX1_umbrellasRunningOnto_34 : decode cX1_umbrellasRunningOnto 34 = .ok (.iload_n 3, 1) := by decide +kernel
theorem dX1_umbrellasRunningOnto_35 : decode cX1_umbrellasRunningOnto 35 = .ok (.invokevirtual 139, 3) := by decide +kernel
theorem dX1_umbrellasRunningOnto_38 : decode cX1_umbrellasRunningOnto 38 = .ok (.iconst 1, 1) := by decide +kernel
theorem dX1_umbrellasRunningOnto_39 : decode cX1_umbrellasRunningOnto 39 = .ok (.iadd, 1) := by decide +kernel
theorem dX1_umbrellasRunningOnto_40 : decode cX1_umbrellasRunningOnto 40 = .ok (.if_icmp .ne 6, 3) := by decide +kernel
theorem dX1_umbrellasRunningOnto_43 : decode cX1_umbrellasRunningOnto 43 = .ok (.iinc 2 1, 3) := by decide +kernel
theorem dX1_umbrellasRunningOnto_46 : decode cX1_umbrellasRunningOnto 46 = .ok (.iinc 3 1, 3) := by decide +kernel
theorem dX1_umbrellasRunningOnto_49 : decode cX1_umbrellasRunningOnto 49 = .ok (.goto (-45), 3) := by decide +kernel
theorem dX1_umbrellasRunningOnto_52 : decode cX1_umbrellasRunningOnto 52 = .ok (.iload_n 2, 1) := by decide +kernel
theorem dX1_umbrellasRunningOnto_53 : decode cX1_umbrellasRunningOnto 53 = .ok (.ireturn, 1) := by decide +kernel
set_option maxRecDepth 20000 in
theorem ggX1_placesUnreached_X1_umbrellasOver : GoodIn wsX1_placesUnreached wsX1_umbrellasOver := goodIn_r _ [6, 1, 7, 8, 9, 10, 5, 11, 12, 13, 14, 15, 16, 17, 18, 19, 20, 21, 22, 23, 24, 25, 26, 27, 28, 29, 30, 31, 32, 33, 34, 35, 36, 37, 38, 39, 40, 41, 42] (by decide +kernel) (by decide +kernel)
set_option maxRecDepth 20000 in
theorem gX1_placesUnreached_X1_umbrellasOver : GoodIn wsX1_placesUnreached (wsV RX1 142 RX1 yX1_umbrellasOver wsX1_umbrellasOver) := goodIn_app (goodIn_of _ (by decide +kernel)) ggX1_placesUnreached_X1_umbrellasOver
theorem dX1_placesUnreached_0 : decode cX1_placesUnreached 0 = .ok (.iconst 0, 1) := by decide +kernel
theorem dX1_placesUnreached_1 : decode cX1_placesUnreached 1 = .ok (.istore_n 1, 1) := by decide +kernel
theorem dX1_placesUnreached_2 : decode cX1_placesUnreached 2 = .ok (.iconst 0, 1) := by decide +kernel
theorem dX1_placesUnreached_3 : decode cX1_placesUnreached 3 = .ok (.istore_n 2, 1) := by decide +kernel
theorem dX1_placesUnreached_4 : decode cX1_placesUnreached 4 = .ok (.iload_n 2, 1) := by decide +kernel
theorem dX1_placesUnreached_5 : decode cX1_placesUnreached 5 = .ok (.aload_n 0, 1) := by decide +kernel
theorem dX1_placesUnreached_6 : decode cX1_placesUnreached 6 = .ok (.getfield 39, 3) := by decide +kernel
theorem dX1_placesUnreached_9 : decode cX1_placesUnreached 9 = .ok (.if_icmp .ge 20, 3) := by decide +kernel
theorem dX1_placesUnreached_12 : decode cX1_placesUnreached 12 = .ok (.aload_n 0, 1) := by decide +kernel
theorem dX1_placesUnreached_13 : decode cX1_placesUnreached 13 = .ok (.iload_n 2, 1) := by decide +kernel
theorem dX1_placesUnreached_14 : decode cX1_placesUnreached 14 = .ok (.invokevirtual 142, 3) := by decide +kernel
theorem dX1_placesUnreached_17 : decode cX1_placesUnreached 17 = .ok (.ifCond .ne 6, 3) := by decide +kernel
theorem dX1_placesUnreached_20 : decode cX1_placesUnreached 20 = .ok (.iinc 1 1, 3) := by decide +kernel
theorem dX1_placesUnreached_23 : decode cX1_placesUnreached 23 = .ok (.iinc 2 1, 3) := by decide +kernel
theorem dX1_placesUnreached_26 : decode cX1_placesUnreached 26 = .ok (.goto (-22), 3) := by decide +kernel
theorem dX1_placesUnreached_29 : decode cX1_placesUnreached 29 = .ok (.iload_n 1, 1) := by decide +kernel
theorem dX1_placesUnreached_30 : decode cX1_placesUnreached 30 = .ok (.ireturn, 1) := by decide +kernel
set_option maxRecDepth 20000 in
theorem ggX1_isCovered_X1_leastReached : GoodIn wsX1_isCovered wsX1_leastReached := goodIn_r _ [7, 2, 8, 9, 10, 11, 19, 20, 21, 22, 23, 24, 25, 26, 27, 28, 29, 30, 31, 32, 33, 34, 35] (by decide +kernel) (by decide +kernel)
set_option maxRecDepth 20000 in
theorem gX1_isCovered_X1_leastReached : GoodIn wsX1_isCovered (wsV RX1 136 RX1 yX1_leastReached wsX1_leastReached) := goodIn_app (goodIn_of _ (by decide +kernel)) ggX1_isCovered_X1_leastReached
set_option maxRecDepth 20000 in
theorem ggX1_isCovered_X1_greatestReached : GoodIn wsX1_isCovered wsX1_greatestReached := goodIn_r _ [15, 1, 2, 16, 17, 10, 18, 19, 20, 21, 22, 23, 24, 25, 26, 27, 28, 29, 30, 31, 32, 33, 34, 35] (by decide +kernel) (by decide +kernel)
set_option maxRecDepth 20000 in
theorem gX1_isCovered_X1_greatestReached : GoodIn wsX1_isCovered (wsV RX1 139 RX1 yX1_greatestReached wsX1_greatestReached) := goodIn_app (goodIn_of _ (by decide +kernel)) ggX1_isCovered_X1_greatestReached
theorem dX1_isCovered_0 : decode cX1_isCovered 0 = .ok (.iload_n 2, 1) := by decide +kernel
theorem dX1_isCovered_1 : decode cX1_isCovered 1 = .ok (.iconst 1, 1) := by decide +kernel
theorem dX1_isCovered_2 : decode cX1_isCovered 2 = .ok (.if_icmp .ne 9, 3) := by decide +kernel
theorem dX1_isCovered_5 : decode cX1_isCovered 5 = .ok (.iload_n 1, 1) := by decide +kernel
theorem dX1_isCovered_6 : decode cX1_isCovered 6 = .ok (.iconst 1, 1) := by decide +kernel
theorem dX1_isCovered_7 : decode cX1_isCovered 7 = .ok (.isub, 1) := by decide +kernel
theorem dX1_isCovered_8 : decode cX1_isCovered 8 = .ok (.goto 4, 3) := by decide +kernel
theorem dX1_isCovered_11 : decode cX1_isCovered 11 = .ok (.iload_n 1, 1) := by decide +kernel
theorem dX1_isCovered_12 : decode cX1_isCovered 12 = .ok (.istore_n 3, 1) := by decide +kernel
theorem dX1_isCovered_13 : decode cX1_isCovered 13 = .ok (.iload_n 2, 1) := by decide +kernel
theorem dX1_isCovered_14 : decode cX1_isCovered 14 = .ok (.iconst 2, 1) := by decide +kernel
theorem dX1_isCovered_15 : decode cX1_isCovered 15 = .ok (.if_icmp .ne 9, 3) := by decide +kernel
theorem dX1_isCovered_18 : decode cX1_isCovered 18 = .ok (.iload_n 1, 1) := by decide +kernel
theorem dX1_isCovered_19 : decode cX1_isCovered 19 = .ok (.iconst 1, 1) := by decide +kernel
theorem dX1_isCovered_20 : decode cX1_isCovered 20 = .ok (.iadd, 1) := by decide +kernel
theorem dX1_isCovered_21 : decode cX1_isCovered 21 = .ok (.goto 4, 3) := by decide +kernel
theorem dX1_isCovered_24 : decode cX1_isCovered 24 = .ok (.iload_n 1, 1) := by decide +kernel
theorem dX1_isCovered_25 : decode cX1_isCovered 25 = .ok (.istore 4, 2) := by decide +kernel
theorem dX1_isCovered_27 : decode cX1_isCovered 27 = .ok (.iconst 0, 1) := by decide +kernel
theorem dX1_isCovered_28 : decode cX1_isCovered 28 = .ok (.istore 5, 2) := by decide +kernel
theorem dX1_isCovered_30 : decode cX1_isCovered 30 = .ok (.iload 5, 2) := by decide +kernel
theorem dX1_isCovered_32 : decode cX1_isCovered 32 = .ok (.aload_n 0, 1) := by decide +kernel
theorem dX1_isCovered_33 : decode cX1_isCovered 33 = .ok (.getfield 39, 3) := by decide +kernel
theorem dX1_isCovered_36 : decode cX1_isCovered 36 = .ok (.if_icmp .ge 42, 3) := by decide +kernel
theorem dX1_isCovered_39 : decode cX1_isCovered 39 = .ok (.aload_n 0, 1) := by decide +kernel
theorem dX1_isCovered_40 : decode cX1_isCovered 40 = .ok (.getfield 24, 3) := by decide +kernel
theorem dX1_isCovered_43 : decode cX1_isCovered 43 = .ok (.iload 5, 2) := by decide +kernel
theorem dX1_isCovered_45 : decode cX1_isCovered 45 = .ok (.iaload, 1) := by decide +kernel
theorem dX1_isCovered_46 : decode cX1_isCovered 46 = .ok (.ifCond .le 26, 3) := by decide +kernel
theorem dX1_isCovered_49 : decode cX1_isCovered 49 = .ok (.aload_n 0, 1) := by decide +kernel
theorem dX1_isCovered_50 : decode cX1_isCovered 50 = .ok (.iload 5, 2) := by decide +kernel
theorem dX1_isCovered_52 : decode cX1_isCovered 52 = .ok (.invokevirtual 136, 3) := by decide +kernel
theorem dX1_isCovered_55 : decode cX1_isCovered 55 = .ok (.iload 4, 2) := by decide +kernel
theorem dX1_isCovered_57 : decode cX1_isCovered 57 = .ok (.if_icmp .gt 15, 3) := by decide +kernel
theorem dX1_isCovered_60 : decode cX1_isCovered 60 = .ok (.aload_n 0, 1) := by decide +kernel
theorem dX1_isCovered_61 : decode cX1_isCovered 61 = .ok (.iload 5, 2) := by decide +kernel
theorem dX1_isCovered_63 : decode cX1_isCovered 63 = .ok (.invokevirtual 139, 3) := by decide +kernel
theorem dX1_isCovered_66 : decode cX1_isCovered 66 = .ok (.iload_n 3, 1) := by decide +kernel
theorem dX1_isCovered_67 : decode cX1_isCovered 67 = .ok (.if_icmp .lt 5, 3) := by decide +kernel
theorem dX1_isCovered_70 : decode cX1_isCovered 70 = .ok (.iconst 1, 1) := by decide +kernel
theorem dX1_isCovered_71 : decode cX1_isCovered 71 = .ok (.ireturn, 1) := by decide +kernel
theorem dX1_isCovered_72 : decode cX1_isCovered 72 = .ok (.iinc 5 1, 3) := by decide +kernel
theorem dX1_isCovered_75 : decode cX1_isCovered 75 = .ok (.goto (-45), 3) := by decide +kernel
theorem dX1_isCovered_78 : decode cX1_isCovered 78 = .ok (.iconst 0, 1) := by decide +kernel
theorem dX1_isCovered_79 : decode cX1_isCovered 79 = .ok (.ireturn, 1) := by decide +kernel
set_option maxRecDepth 20000 in
theorem ggX1_wetnessAfter_X1_wetterBy : GoodIn wsX1_wetnessAfter wsX1_wetterBy := goodIn_r _ [10, 11, 12, 13, 9, 14, 15, 16, 17, 18, 19, 20, 21, 22, 4, 23, 24, 25, 26, 27, 2, 3, 5, 28, 29, 30, 31, 32, 33, 34, 35, 36, 37, 38, 39, 40, 41, 42, 43, 44, 45, 46, 47, 48] (by decide +kernel) (by decide +kernel)
set_option maxRecDepth 20000 in
theorem gX1_wetnessAfter_X1_wetterBy : GoodIn wsX1_wetnessAfter (wsV RX1 145 RX1 yX1_wetterBy wsX1_wetterBy) := goodIn_app (goodIn_of _ (by decide +kernel)) ggX1_wetnessAfter_X1_wetterBy
theorem dX1_wetnessAfter_0 : decode cX1_wetnessAfter 0 = .ok (.sipush 999, 3) := by decide +kernel
theorem dX1_wetnessAfter_3 : decode cX1_wetnessAfter 3 = .ok (.aload_n 0, 1) := by decide +kernel
theorem dX1_wetnessAfter_4 : decode cX1_wetnessAfter 4 = .ok (.getfield 15, 3) := by decide +kernel
theorem dX1_wetnessAfter_7 : decode cX1_wetnessAfter 7 = .ok (.iload_n 1, 1) := by decide +kernel
theorem dX1_wetnessAfter_8 : decode cX1_wetnessAfter 8 = .ok (.iaload, 1) := by decide +kernel
theorem dX1_wetnessAfter_9 : decode cX1_wetnessAfter 9 = .ok (.aload_n 0, 1) := by decide +kernel
theorem dX1_wetnessAfter_10 : decode cX1_wetnessAfter 10 = .ok (.iload_n 1, 1) := by decide +kernel
theorem dX1_wetnessAfter_11 : decode cX1_wetnessAfter 11 = .ok (.iload_n 2, 1) := by decide +kernel
theorem dX1_wetnessAfter_12 : decode cX1_wetnessAfter 12 = .ok (.iload_n 3, 1) := by decide +kernel
theorem dX1_wetnessAfter_13 : decode cX1_wetnessAfter 13 = .ok (.invokevirtual 145, 3) := by decide +kernel
theorem dX1_wetnessAfter_16 : decode cX1_wetnessAfter 16 = .ok (.iadd, 1) := by decide +kernel
theorem dX1_wetnessAfter_17 : decode cX1_wetnessAfter 17 = .ok (.invokestatic 133, 3) := by decide +kernel
theorem dX1_wetnessAfter_20 : decode cX1_wetnessAfter 20 = .ok (.ireturn, 1) := by decide +kernel
set_option maxRecDepth 20000 in
theorem ggX1_wetterBy_X1_umbrellasRunningOnto : GoodIn wsX1_wetterBy wsX1_umbrellasRunningOnto := goodIn_r _ [5, 6, 7, 8, 9, 10, 4, 11, 12, 13, 14, 15, 16, 17, 18, 19, 20, 21, 22, 27, 28, 29, 30, 31, 32, 33, 34, 35, 36, 37, 38, 39, 40, 41, 42, 43] (by decide +kernel) (by decide +kernel)
set_option maxRecDepth 20000 in
theorem gX1_wetterBy_X1_umbrellasRunningOnto : GoodIn wsX1_wetterBy (wsV RX1 148 RX1 yX1_umbrellasRunningOnto wsX1_umbrellasRunningOnto) := goodIn_app (goodIn_of _ (by decide +kernel)) ggX1_wetterBy_X1_umbrellasRunningOnto
set_option maxRecDepth 20000 in
theorem ggX1_wetterBy_X1_isCovered : GoodIn wsX1_wetterBy wsX1_isCovered := goodIn_r _ [26, 6, 7, 8, 9, 10, 4, 11, 12, 13, 14, 15, 16, 17, 18, 19, 20, 21, 22, 27, 28, 29, 30, 31, 32, 33, 34, 35, 36, 37, 38, 39, 40, 41, 42, 43] (by decide +kernel) (by decide +kernel)
set_option maxRecDepth 20000 in
theorem gX1_wetterBy_X1_isCovered : GoodIn wsX1_wetterBy (wsV RX1 151 RX1 yX1_isCovered wsX1_isCovered) := goodIn_app (goodIn_of _ (by decide +kernel)) ggX1_wetterBy_X1_isCovered
theorem dX1_wetterBy_0 : decode cX1_wetterBy 0 = .ok (.aload_n 0, 1) := by decide +kernel
theorem dX1_wetterBy_1 : decode cX1_wetterBy 1 = .ok (.iload_n 1, 1) := by decide +kernel
theorem dX1_wetterBy_2 : decode cX1_wetterBy 2 = .ok (.invokevirtual 148, 3) := by decide +kernel
theorem dX1_wetterBy_5 : decode cX1_wetterBy 5 = .ok (.iload_n 2, 1) := by decide +kernel
theorem dX1_wetterBy_6 : decode cX1_wetterBy 6 = .ok (.iconst 2, 1) := by decide +kernel
theorem dX1_wetterBy_7 : decode cX1_wetterBy 7 = .ok (.idiv, 1) := by decide +kernel
theorem dX1_wetterBy_8 : decode cX1_wetterBy 8 = .ok (.imul, 1) := by decide +kernel
theorem dX1_wetterBy_9 : decode cX1_wetterBy 9 = .ok (.istore 4, 2) := by decide +kernel
theorem dX1_wetterBy_11 : decode cX1_wetterBy 11 = .ok (.aload_n 0, 1) := by decide +kernel
theorem dX1_wetterBy_12 : decode cX1_wetterBy 12 = .ok (.iload_n 1, 1) := by decide +kernel
theorem dX1_wetterBy_13 : decode cX1_wetterBy 13 = .ok (.iload_n 3, 1) := by decide +kernel
theorem dX1_wetterBy_14 : decode cX1_wetterBy 14 = .ok (.invokevirtual 151, 3) := by decide +kernel
theorem dX1_wetterBy_17 : decode cX1_wetterBy 17 = .ok (.ifCond .eq 8, 3) := by decide +kernel
theorem dX1_wetterBy_20 : decode cX1_wetterBy 20 = .ok (.iload 4, 2) := by decide +kernel
theorem dX1_wetterBy_22 : decode cX1_wetterBy 22 = .ok (.goto 7, 3) := by decide +kernel
theorem dX1_wetterBy_25 : decode cX1_wetterBy 25 = .ok (.iload 4, 2) := by decide +kernel
theorem dX1_wetterBy_27 : decode cX1_wetterBy 27 = .ok (.iload_n 2, 1) := by decide +kernel
theorem dX1_wetterBy_28 : decode cX1_wetterBy 28 = .ok (.iadd, 1) := by decide +kernel
theorem dX1_wetterBy_29 : decode cX1_wetterBy 29 = .ok (.ireturn, 1) := by decide +kernel
set_option maxRecDepth 20000 in
theorem ggX1_gustsBorne_X1_wetterBy : GoodIn wsX1_gustsBorne wsX1_wetterBy := goodIn_r _ [7, 8, 9, 10, 6, 11, 12, 13, 14, 15, 16, 17, 18, 19, 20, 21, 22, 23, 24, 25, 26, 27, 28, 29, 30, 31, 32, 33, 34, 35, 36, 37, 38, 39, 40, 41, 42, 43, 44, 45, 46, 47, 48, 49] (by decide +kernel) (by decide +kernel)
set_option maxRecDepth 20000 in
theorem gX1_gustsBorne_X1_wetterBy : GoodIn wsX1_gustsBorne (wsV RX1 145 RX1 yX1_wetterBy wsX1_wetterBy) := goodIn_app (goodIn_of _ (by decide +kernel)) ggX1_gustsBorne_X1_wetterBy
theorem dX1_gustsBorne_0 : decode cX1_gustsBorne 0 = .ok (.aload_n 0, 1) := by decide +kernel
theorem dX1_gustsBorne_1 : decode cX1_gustsBorne 1 = .ok (.iload_n 1, 1) := by decide +kernel
theorem dX1_gustsBorne_2 : decode cX1_gustsBorne 2 = .ok (.iload_n 2, 1) := by decide +kernel
theorem dX1_gustsBorne_3 : decode cX1_gustsBorne 3 = .ok (.iconst 0, 1) := by decide +kernel
theorem dX1_gustsBorne_4 : decode cX1_gustsBorne 4 = .ok (.invokevirtual 145, 3) := by decide +kernel
theorem dX1_gustsBorne_7 : decode cX1_gustsBorne 7 = .ok (.istore_n 3, 1) := by decide +kernel
theorem dX1_gustsBorne_8 : decode cX1_gustsBorne 8 = .ok (.iload_n 3, 1) := by decide +kernel
theorem dX1_gustsBorne_9 : decode cX1_gustsBorne 9 = .ok (.ifCond .le 15, 3) := by decide +kernel
theorem dX1_gustsBorne_12 : decode cX1_gustsBorne 12 = .ok (.aload_n 0, 1) := by decide +kernel
theorem dX1_gustsBorne_13 : decode cX1_gustsBorne 13 = .ok (.getfield 18, 3) := by decide +kernel
theorem dX1_gustsBorne_16 : decode cX1_gustsBorne 16 = .ok (.iload_n 1, 1) := by decide +kernel
theorem dX1_gustsBorne_17 : decode cX1_gustsBorne 17 = .ok (.iaload, 1) := by decide +kernel
theorem dX1_gustsBorne_18 : decode cX1_gustsBorne 18 = .ok (.sipush 999, 3) := by decide +kernel
theorem dX1_gustsBorne_21 : decode cX1_gustsBorne 21 = .ok (.if_icmp .lt 6, 3) := by decide +kernel
theorem dX1_gustsBorne_24 : decode cX1_gustsBorne 24 = .ok (.bipush (-5), 2) := by decide +kernel
theorem dX1_gustsBorne_26 : decode cX1_gustsBorne 26 = .ok (.ireturn, 1) := by decide +kernel
theorem dX1_gustsBorne_27 : decode cX1_gustsBorne 27 = .ok (.aload_n 0, 1) := by decide +kernel
theorem dX1_gustsBorne_28 : decode cX1_gustsBorne 28 = .ok (.getfield 18, 3) := by decide +kernel
theorem dX1_gustsBorne_31 : decode cX1_gustsBorne 31 = .ok (.iload_n 1, 1) := by decide +kernel
theorem dX1_gustsBorne_32 : decode cX1_gustsBorne 32 = .ok (.iaload, 1) := by decide +kernel
theorem dX1_gustsBorne_33 : decode cX1_gustsBorne 33 = .ok (.aload_n 0, 1) := by decide +kernel
theorem dX1_gustsBorne_34 : decode cX1_gustsBorne 34 = .ok (.getfield 15, 3) := by decide +kernel
theorem dX1_gustsBorne_37 : decode cX1_gustsBorne 37 = .ok (.iload_n 1, 1) := by decide +kernel
theorem dX1_gustsBorne_38 : decode cX1_gustsBorne 38 = .ok (.iaload, 1) := by decide +kernel
theorem dX1_gustsBorne_39 : decode cX1_gustsBorne 39 = .ok (.isub, 1) := by decide +kernel
theorem dX1_gustsBorne_40 : decode cX1_gustsBorne 40 = .ok (.iload_n 3, 1) := by decide +kernel
theorem dX1_gustsBorne_41 : decode cX1_gustsBorne 41 = .ok (.idiv, 1) := by decide +kernel
theorem dX1_gustsBorne_42 : decode cX1_gustsBorne 42 = .ok (.ireturn, 1) := by decide +kernel
set_option maxRecDepth 20000 in
theorem ggX1_totalWetnessAfter_X1_wetnessAfter : GoodIn wsX1_totalWetnessAfter wsX1_wetnessAfter := goodIn_r _ [6, 7, 8, 9, 10, 11, 12, 13, 14, 5, 15, 16, 17, 18, 19, 1, 20, 21, 22, 23, 24, 25, 26, 27, 28, 29, 30, 31, 32, 33, 34, 35, 36, 37, 38, 39, 40, 41, 42, 43, 44, 45, 46, 47, 48, 49, 50, 51, 52] (by decide +kernel) (by decide +kernel)
set_option maxRecDepth 20000 in
theorem gX1_totalWetnessAfter_X1_wetnessAfter : GoodIn wsX1_totalWetnessAfter (wsV RX1 103 RX1 yX1_wetnessAfter wsX1_wetnessAfter) := goodIn_app (goodIn_of _ (by decide +kernel)) ggX1_totalWetnessAfter_X1_wetnessAfter
theorem dX1_totalWetnessAfter_0 : decode cX1_totalWetnessAfter 0 = .ok (.iconst 0, 1) := by decide +kernel
theorem dX1_totalWetnessAfter_1 : decode cX1_totalWetnessAfter 1 = .ok (.istore_n 3, 1) := by decide +kernel
theorem dX1_totalWetnessAfter_2 : decode cX1_totalWetnessAfter 2 = .ok (.iconst 0, 1) := by decide +kernel
theorem dX1_totalWetnessAfter_3 : decode cX1_totalWetnessAfter 3 = .ok (.istore 4, 2) := by decide +kernel
theorem dX1_totalWetnessAfter_5 : decode cX1_totalWetnessAfter 5 = .ok (.iload 4, 2) := by decide +kernel
theorem dX1_totalWetnessAfter_7 : decode cX1_totalWetnessAfter 7 = .ok (.aload_n 0, 1) := by decide +kernel
theorem dX1_totalWetnessAfter_8 : decode cX1_totalWetnessAfter 8 = .ok (.getfield 39, 3) := by decide +kernel
theorem dX1_totalWetnessAfter_11 : decode cX1_totalWetnessAfter 11 = .ok (.if_icmp .ge 20, 3) := by decide +kernel
theorem dX1_totalWetnessAfter_14 : decode cX1_totalWetnessAfter 14 = .ok (.iload_n 3, 1) := by decide +kernel
theorem dX1_totalWetnessAfter_15 : decode cX1_totalWetnessAfter 15 = .ok (.aload_n 0, 1) := by decide +kernel
theorem dX1_totalWetnessAfter_16 : decode cX1_totalWetnessAfter 16 = .ok (.iload 4, 2) := by decide +kernel
theorem dX1_totalWetnessAfter_18 : decode cX1_totalWetnessAfter 18 = .ok (.iload_n 1, 1) := by decide +kernel
theorem dX1_totalWetnessAfter_19 : decode cX1_totalWetnessAfter 19 = .ok (.iload_n 2, 1) := by decide +kernel
theorem dX1_totalWetnessAfter_20 : decode cX1_totalWetnessAfter 20 = .ok (.invokevirtual 103, 3) := by decide +kernel
theorem dX1_totalWetnessAfter_23 : decode cX1_totalWetnessAfter 23 = .ok (.iadd, 1) := by decide +kernel
theorem dX1_totalWetnessAfter_24 : decode cX1_totalWetnessAfter 24 = .ok (.istore_n 3, 1) := by decide +kernel
theorem dX1_totalWetnessAfter_25 : decode cX1_totalWetnessAfter 25 = .ok (.iinc 4 1, 3) := by decide +kernel
theorem dX1_totalWetnessAfter_28 : decode cX1_totalWetnessAfter 28 = .ok (.goto (-23), 3) := by decide +kernel
theorem dX1_totalWetnessAfter_31 : decode cX1_totalWetnessAfter 31 = .ok (.iload_n 3, 1) := by decide +kernel
theorem dX1_totalWetnessAfter_32 : decode cX1_totalWetnessAfter 32 = .ok (.ireturn, 1) := by decide +kernel
theorem dX1_refusal_0 : decode cX1_refusal 0 = .ok (.aload_n 0, 1) := by decide +kernel
theorem dX1_refusal_1 : decode cX1_refusal 1 = .ok (.getfield 24, 3) := by decide +kernel
theorem dX1_refusal_4 : decode cX1_refusal 4 = .ok (.iload_n 1, 1) := by decide +kernel
theorem dX1_refusal_5 : decode cX1_refusal 5 = .ok (.iaload, 1) := by decide +kernel
theorem dX1_refusal_6 : decode cX1_refusal 6 = .ok (.istore_n 2, 1) := by decide +kernel
theorem dX1_refusal_7 : decode cX1_refusal 7 = .ok (.aload_n 0, 1) := by decide +kernel
theorem dX1_refusal_8 : decode cX1_refusal 8 = .ok (.getfield 24, 3) := by decide +kernel
theorem dX1_refusal_11 : decode cX1_refusal 11 = .ok (.iload_n 1, 1) := by decide +kernel
theorem dX1_refusal_12 : decode cX1_refusal 12 = .ok (.iconst 1, 1) := by decide +kernel
theorem dX1_refusal_13 : decode cX1_refusal 13 = .ok (.iadd, 1) := by decide +kernel
theorem dX1_refusal_14 : decode cX1_refusal 14 = .ok (.iaload, 1) := by decide +kernel
theorem dX1_refusal_15 : decode cX1_refusal 15 = .ok (.istore_n 3, 1) := by decide +kernel
theorem dX1_refusal_16 : decode cX1_refusal 16 = .ok (.iload_n 2, 1) := by decide +kernel
theorem dX1_refusal_17 : decode cX1_refusal 17 = .ok (.iload_n 3, 1) := by decide +kernel
theorem dX1_refusal_18 : decode cX1_refusal 18 = .ok (.if_icmp .ne 5, 3) := by decide +kernel
theorem dX1_refusal_21 : decode cX1_refusal 21 = .ok (.iconst 1, 1) := by decide +kernel
theorem dX1_refusal_22 : decode cX1_refusal 22 = .ok (.ireturn, 1) := by decide +kernel
theorem dX1_refusal_23 : decode cX1_refusal 23 = .ok (.iload_n 2, 1) := by decide +kernel
theorem dX1_refusal_24 : decode cX1_refusal 24 = .ok (.iload_n 3, 1) := by decide +kernel
theorem dX1_refusal_25 : decode cX1_refusal 25 = .ok (.if_icmp .le 7, 3) := by decide +kernel
theorem dX1_refusal_28 : decode cX1_refusal 28 = .ok (.iload_n 1, 1) := by decide +kernel
theorem dX1_refusal_29 : decode cX1_refusal 29 = .ok (.goto 6, 3) := by decide +kernel
theorem dX1_refusal_32 : decode cX1_refusal 32 = .ok (.iload_n 1, 1) := by decide +kernel
theorem dX1_refusal_33 : decode cX1_refusal 33 = .ok (.iconst 1, 1) := by decide +kernel
theorem dX1_refusal_34 : decode cX1_refusal 34 = .ok (.iadd, 1) := by decide +kernel
theorem dX1_refusal_35 : decode cX1_refusal 35 = .ok (.istore 4, 2) := by decide +kernel
theorem dX1_refusal_37 : decode cX1_refusal 37 = .ok (.iload_n 2, 1) := by decide +kernel
theorem dX1_refusal_38 : decode cX1_refusal 38 = .ok (.iload_n 3, 1) := by decide +kernel
theorem dX1_refusal_39 : decode cX1_refusal 39 = .ok (.if_icmp .le 9, 3) := by decide +kernel
theorem dX1_refusal_42 : decode cX1_refusal 42 = .ok (.iload_n 1, 1) := by decide +kernel
theorem dX1_refusal_43 : decode cX1_refusal 43 = .ok (.iconst 1, 1) := by decide +kernel
theorem dX1_refusal_44 : decode cX1_refusal 44 = .ok (.iadd, 1) := by decide +kernel
theorem dX1_refusal_45 : decode cX1_refusal 45 = .ok (.goto 4, 3) := by decide +kernel
theorem dX1_refusal_48 : decode cX1_refusal 48 = .ok (.iload_n 1, 1) := by decide +kernel
theorem dX1_refusal_49 : decode cX1_refusal 49 = .ok (.istore 5, 2) := by decide +kernel
theorem dX1_refusal_51 : decode cX1_refusal 51 = .ok (.aload_n 0, 1) := by decide +kernel
theorem dX1_refusal_52 : decode cX1_refusal 52 = .ok (.getfield 15, 3) := by decide +kernel
theorem dX1_refusal_55 : decode cX1_refusal 55 = .ok (.iload 4, 2) := by decide +kernel
theorem dX1_refusal_57 : decode cX1_refusal 57 = .ok (.iaload, 1) := by decide +kernel
theorem dX1_refusal_58 : decode cX1_refusal 58 = .ok (.aload_n 0, 1) := by decide +kernel
theorem dX1_refusal_59 : decode cX1_refusal 59 = .ok (.getfield 15, 3) := by decide +kernel
theorem dX1_refusal_62 : decode cX1_refusal 62 = .ok (.iload 5, 2) := by decide +kernel
theorem dX1_refusal_64 : decode cX1_refusal 64 = .ok (.iaload, 1) := by decide +kernel
theorem dX1_refusal_65 : decode cX1_refusal 65 = .ok (.isub, 1) := by decide +kernel
theorem dX1_refusal_66 : decode cX1_refusal 66 = .ok (.istore 6, 2) := by decide +kernel
theorem dX1_refusal_68 : decode cX1_refusal 68 = .ok (.aload_n 0, 1) := by decide +kernel
theorem dX1_refusal_69 : decode cX1_refusal 69 = .ok (.getfield 24, 3) := by decide +kernel
theorem dX1_refusal_72 : decode cX1_refusal 72 = .ok (.iload 5, 2) := by decide +kernel
theorem dX1_refusal_74 : decode cX1_refusal 74 = .ok (.iaload, 1) := by decide +kernel
theorem dX1_refusal_75 : decode cX1_refusal 75 = .ok (.ifCond .ne 13, 3) := by decide +kernel
theorem dX1_refusal_78 : decode cX1_refusal 78 = .ok (.iload 6, 2) := by decide +kernel
theorem dX1_refusal_80 : decode cX1_refusal 80 = .ok (.ineg, 1) := by decide +kernel
theorem dX1_refusal_81 : decode cX1_refusal 81 = .ok (.bipush 50, 2) := by decide +kernel
theorem dX1_refusal_83 : decode cX1_refusal 83 = .ok (.if_icmp .ge 5, 3) := by decide +kernel
theorem dX1_refusal_86 : decode cX1_refusal 86 = .ok (.iconst 2, 1) := by decide +kernel
theorem dX1_refusal_87 : decode cX1_refusal 87 = .ok (.ireturn, 1) := by decide +kernel
theorem dX1_refusal_88 : decode cX1_refusal 88 = .ok (.iload 6, 2) := by decide +kernel
theorem dX1_refusal_90 : decode cX1_refusal 90 = .ok (.ifCond .le 7, 3) := by decide +kernel
theorem dX1_refusal_93 : decode cX1_refusal 93 = .ok (.iconst 3, 1) := by decide +kernel
theorem dX1_refusal_94 : decode cX1_refusal 94 = .ok (.goto 4, 3) := by decide +kernel
theorem dX1_refusal_97 : decode cX1_refusal 97 = .ok (.iconst 0, 1) := by decide +kernel
theorem dX1_refusal_98 : decode cX1_refusal 98 = .ok (.ireturn, 1) := by decide +kernel
set_option maxRecDepth 20000 in
theorem ggX1_driestSwap_X1_totalWetnessAfter : GoodIn wsX1_driestSwap wsX1_totalWetnessAfter := goodIn_r _ [7, 1, 8, 9, 10, 6, 11, 12, 13, 14, 15, 16, 17, 18, 19, 20, 21, 22, 23, 24, 2, 25, 26, 27, 28, 29, 30, 31, 32, 33, 34, 35, 36, 37, 38, 39, 47, 48, 49, 50, 51, 52, 53, 54, 55, 56, 57, 58, 59, 60, 61, 62, 63] (by decide +kernel) (by decide +kernel)
set_option maxRecDepth 20000 in
theorem gX1_driestSwap_X1_totalWetnessAfter : GoodIn wsX1_driestSwap (wsV RX1 154 RX1 yX1_totalWetnessAfter wsX1_totalWetnessAfter) := goodIn_app (goodIn_of _ (by decide +kernel)) ggX1_driestSwap_X1_totalWetnessAfter
set_option maxRecDepth 20000 in
theorem ggX1_driestSwap_X1_refusal : GoodIn wsX1_driestSwap wsX1_refusal := goodIn_r _ [43, 2, 12, 47, 48, 49, 50, 51, 52, 53, 54, 55, 56, 57, 58, 59, 60, 61, 62, 63] (by decide +kernel) (by decide +kernel)
set_option maxRecDepth 20000 in
theorem gX1_driestSwap_X1_refusal : GoodIn wsX1_driestSwap (wsV RX1 89 RX1 yX1_refusal wsX1_refusal) := goodIn_app (goodIn_of _ (by decide +kernel)) ggX1_driestSwap_X1_refusal
set_option maxRecDepth 20000 in
theorem ggX1_driestSwap_X1_exchange : GoodIn wsX1_driestSwap wsX1_exchange := goodIn_r _ [46] (by decide +kernel) (by decide +kernel)
set_option maxRecDepth 20000 in
theorem gX1_driestSwap_X1_exchange : GoodIn wsX1_driestSwap (va_wsS RX1 85 yX1_exchange wsX1_exchange) := goodIn_app (goodIn_of _ (by decide +kernel)) ggX1_driestSwap_X1_exchange
theorem dX1_driestSwap_0 : decode cX1_driestSwap 0 = .ok (.bipush (-5), 2) := by decide +kernel
theorem dX1_driestSwap_2 : decode cX1_driestSwap 2 = .ok (.istore_n 3, 1) := by decide +kernel
theorem dX1_driestSwap_3 : decode cX1_driestSwap 3 = .ok (.aload_n 0, 1) := by decide +kernel
theorem dX1_driestSwap_4 : decode cX1_driestSwap 4 = .ok (.iload_n 1, 1) := by decide +kernel
theorem dX1_driestSwap_5 : decode cX1_driestSwap 5 = .ok (.iload_n 2, 1) := by decide +kernel
theorem dX1_driestSwap_6 : decode cX1_driestSwap 6 = .ok (.invokevirtual 154, 3) := by decide +kernel
theorem dX1_driestSwap_9 : decode cX1_driestSwap 9 = .ok (.istore 4, 2) := by decide +kernel
theorem dX1_driestSwap_11 : decode cX1_driestSwap 11 = .ok (.iconst 0, 1) := by decide +kernel
theorem dX1_driestSwap_12 : decode cX1_driestSwap 12 = .ok (.istore 5, 2) := by decide +kernel
theorem dX1_driestSwap_14 : decode cX1_driestSwap 14 = .ok (.iload 5, 2) := by decide +kernel
theorem dX1_driestSwap_16 : decode cX1_driestSwap 16 = .ok (.aload_n 0, 1) := by decide +kernel
theorem dX1_driestSwap_17 : decode cX1_driestSwap 17 = .ok (.getfield 39, 3) := by decide +kernel
theorem dX1_driestSwap_20 : decode cX1_driestSwap 20 = .ok (.iconst 1, 1) := by decide +kernel
theorem dX1_driestSwap_21 : decode cX1_driestSwap 21 = .ok (.isub, 1) := by decide +kernel
theorem dX1_driestSwap_22 : decode cX1_driestSwap 22 = .ok (.if_icmp .ge 58, 3) := by decide +kernel
theorem dX1_driestSwap_25 : decode cX1_driestSwap 25 = .ok (.aload_n 0, 1) := by decide +kernel
theorem dX1_driestSwap_26 : decode cX1_driestSwap 26 = .ok (.iload 5, 2) := by decide +kernel
theorem dX1_driestSwap_28 : decode cX1_driestSwap 28 = .ok (.invokevirtual 89, 3) := by decide +kernel
theorem dX1_driestSwap_31 : decode cX1_driestSwap 31 = .ok (.ifCond .ne 43, 3) := by decide +kernel
theorem dX1_driestSwap_34 : decode cX1_driestSwap 34 = .ok (.aload_n 0, 1) := by decide +kernel
theorem dX1_driestSwap_35 : decode cX1_driestSwap 35 = .ok (.getfield 24, 3) := by decide +kernel
theorem dX1_driestSwap_38 : decode cX1_driestSwap 38 = .ok (.iload 5, 2) := by decide +kernel
theorem dX1_driestSwap_40 : decode cX1_driestSwap 40 = .ok (.invokestatic 85, 3) := by decide +kernel
theorem dX1_driestSwap_43 : decode cX1_driestSwap 43 = .ok (.aload_n 0, 1) := by decide +kernel
theorem dX1_driestSwap_44 : decode cX1_driestSwap 44 = .ok (.iload_n 1, 1) := by decide +kernel
theorem dX1_driestSwap_45 : decode cX1_driestSwap 45 = .ok (.iload_n 2, 1) := by decide +kernel
theorem dX1_driestSwap_46 : decode cX1_driestSwap 46 = .ok (.invokevirtual 154, 3) := by decide +kernel
theorem dX1_driestSwap_49 : decode cX1_driestSwap 49 = .ok (.istore 6, 2) := by decide +kernel
theorem dX1_driestSwap_51 : decode cX1_driestSwap 51 = .ok (.aload_n 0, 1) := by decide +kernel
theorem dX1_driestSwap_52 : decode cX1_driestSwap 52 = .ok (.getfield 24, 3) := by decide +kernel
theorem dX1_driestSwap_55 : decode cX1_driestSwap 55 = .ok (.iload 5, 2) := by decide +kernel
theorem dX1_driestSwap_57 : decode cX1_driestSwap 57 = .ok (.invokestatic 85, 3) := by decide +kernel
theorem dX1_driestSwap_60 : decode cX1_driestSwap 60 = .ok (.iload 6, 2) := by decide +kernel
theorem dX1_driestSwap_62 : decode cX1_driestSwap 62 = .ok (.iload 4, 2) := by decide +kernel
theorem dX1_driestSwap_64 : decode cX1_driestSwap 64 = .ok (.if_icmp .ge 10, 3) := by decide +kernel
theorem dX1_driestSwap_67 : decode cX1_driestSwap 67 = .ok (.iload 6, 2) := by decide +kernel
theorem dX1_driestSwap_69 : decode cX1_driestSwap 69 = .ok (.istore 4, 2) := by decide +kernel
theorem dX1_driestSwap_71 : decode cX1_driestSwap 71 = .ok (.iload 5, 2) := by decide +kernel
theorem dX1_driestSwap_73 : decode cX1_driestSwap 73 = .ok (.istore_n 3, 1) := by decide +kernel
theorem dX1_driestSwap_74 : decode cX1_driestSwap 74 = .ok (.iinc 5 1, 3) := by decide +kernel
theorem dX1_driestSwap_77 : decode cX1_driestSwap 77 = .ok (.goto (-63), 3) := by decide +kernel
theorem dX1_driestSwap_80 : decode cX1_driestSwap 80 = .ok (.iload_n 3, 1) := by decide +kernel
theorem dX1_driestSwap_81 : decode cX1_driestSwap 81 = .ok (.ireturn, 1) := by decide +kernel
theorem dX1_peopleToServe_0 : decode cX1_peopleToServe 0 = .ok (.aload_n 0, 1) := by decide +kernel
theorem dX1_peopleToServe_1 : decode cX1_peopleToServe 1 = .ok (.getfield 39, 3) := by decide +kernel
theorem dX1_peopleToServe_4 : decode cX1_peopleToServe 4 = .ok (.aload_n 0, 1) := by decide +kernel
theorem dX1_peopleToServe_5 : decode cX1_peopleToServe 5 = .ok (.getfield 30, 3) := by decide +kernel
theorem dX1_peopleToServe_8 : decode cX1_peopleToServe 8 = .ok (.iconst 1, 1) := by decide +kernel
theorem dX1_peopleToServe_9 : decode cX1_peopleToServe 9 = .ok (.iaload, 1) := by decide +kernel
theorem dX1_peopleToServe_10 : decode cX1_peopleToServe 10 = .ok (.invokestatic 133, 3) := by decide +kernel
theorem dX1_peopleToServe_13 : decode cX1_peopleToServe 13 = .ok (.ireturn, 1) := by decide +kernel
set_option maxRecDepth 20000 in
theorem ggX1_fareForAll_X1_peopleToServe : GoodIn wsX1_fareForAll wsX1_peopleToServe := goodIn_r _ [6, 7, 1, 8, 9, 10, 11, 12, 13, 14, 15, 16, 17, 18, 19, 20, 21, 22, 23, 24, 25, 26, 27, 28] (by decide +kernel) (by decide +kernel)
set_option maxRecDepth 20000 in
theorem gX1_fareForAll_X1_peopleToServe : GoodIn wsX1_fareForAll (wsV RX1 118 RX1 yX1_peopleToServe wsX1_peopleToServe) := goodIn_app (goodIn_of _ (by decide +kernel)) ggX1_fareForAll_X1_peopleToServe
theorem dX1_fareForAll_0 : decode cX1_fareForAll 0 = .ok (.aload_n 0, 1) := by decide +kernel
theorem dX1_fareForAll_1 : decode cX1_fareForAll 1 = .ok (.invokevirtual 118, 3) := by decide +kernel
theorem dX1_fareForAll_4 : decode cX1_fareForAll 4 = .ok (.aload_n 0, 1) := by decide +kernel
theorem dX1_fareForAll_5 : decode cX1_fareForAll 5 = .ok (.getfield 30, 3) := by decide +kernel
theorem dX1_fareForAll_8 : decode cX1_fareForAll 8 = .ok (.iconst 2, 1) := by decide +kernel
theorem dX1_fareForAll_9 : decode cX1_fareForAll 9 = .ok (.iaload, 1) := by decide +kernel
theorem dX1_fareForAll_10 : decode cX1_fareForAll 10 = .ok (.imul, 1) := by decide +kernel
theorem dX1_fareForAll_11 : decode cX1_fareForAll 11 = .ok (.ireturn, 1) := by decide +kernel
set_option maxRecDepth 20000 in
theorem ggX1_driestToServe_X1_peopleToServe : GoodIn wsX1_driestToServe wsX1_peopleToServe := goodIn_r _ [6, 7, 8, 9, 10, 11, 12, 13, 14, 15, 16, 17, 18, 19, 20, 21, 22, 23, 24, 25, 26, 27, 28, 29] (by decide +kernel) (by decide +kernel)
set_option maxRecDepth 20000 in
theorem gX1_driestToServe_X1_peopleToServe : GoodIn wsX1_driestToServe (wsV RX1 118 RX1 yX1_peopleToServe wsX1_peopleToServe) := goodIn_app (goodIn_of _ (by decide +kernel)) ggX1_driestToServe_X1_peopleToServe
theorem dX1_driestToServe_0 : decode cX1_driestToServe 0 = .ok (.aload_n 0, 1) := by decide +kernel
theorem dX1_driestToServe_1 : decode cX1_driestToServe 1 = .ok (.invokevirtual 118, 3) := by decide +kernel
theorem dX1_driestToServe_4 : decode cX1_driestToServe 4 = .ok (.istore_n 1, 1) := by decide +kernel
theorem dX1_driestToServe_5 : decode cX1_driestToServe 5 = .ok (.iconst 0, 1) := by decide +kernel
theorem dX1_driestToServe_6 : decode cX1_driestToServe 6 = .ok (.istore_n 2, 1) := by decide +kernel
theorem dX1_driestToServe_7 : decode cX1_driestToServe 7 = .ok (.iconst 1, 1) := by decide +kernel
theorem dX1_driestToServe_8 : decode cX1_driestToServe 8 = .ok (.istore_n 3, 1) := by decide +kernel
theorem dX1_driestToServe_9 : decode cX1_driestToServe 9 = .ok (.iload_n 3, 1) := by decide +kernel
theorem dX1_driestToServe_10 : decode cX1_driestToServe 10 = .ok (.iload_n 1, 1) := by decide +kernel
theorem dX1_driestToServe_11 : decode cX1_driestToServe 11 = .ok (.if_icmp .ge 26, 3) := by decide +kernel
theorem dX1_driestToServe_14 : decode cX1_driestToServe 14 = .ok (.aload_n 0, 1) := by decide +kernel
theorem dX1_driestToServe_15 : decode cX1_driestToServe 15 = .ok (.getfield 15, 3) := by decide +kernel
theorem dX1_driestToServe_18 : decode cX1_driestToServe 18 = .ok (.iload_n 3, 1) := by decide +kernel
theorem dX1_driestToServe_19 : decode cX1_driestToServe 19 = .ok (.iaload, 1) := by decide +kernel
theorem dX1_driestToServe_20 : decode cX1_driestToServe 20 = .ok (.aload_n 0, 1) := by decide +kernel
theorem dX1_driestToServe_21 : decode cX1_driestToServe 21 = .ok (.getfield 15, 3) := by decide +kernel
theorem dX1_driestToServe_24 : decode cX1_driestToServe 24 = .ok (.iload_n 2, 1) := by decide +kernel
theorem dX1_driestToServe_25 : decode cX1_driestToServe 25 = .ok (.iaload, 1) := by decide +kernel
theorem dX1_driestToServe_26 : decode cX1_driestToServe 26 = .ok (.if_icmp .ge 5, 3) := by decide +kernel
theorem dX1_driestToServe_29 : decode cX1_driestToServe 29 = .ok (.iload_n 3, 1) := by decide +kernel
theorem dX1_driestToServe_30 : decode cX1_driestToServe 30 = .ok (.istore_n 2, 1) := by decide +kernel
theorem dX1_driestToServe_31 : decode cX1_driestToServe 31 = .ok (.iinc 3 1, 3) := by decide +kernel
theorem dX1_driestToServe_34 : decode cX1_driestToServe 34 = .ok (.goto (-25), 3) := by decide +kernel
theorem dX1_driestToServe_37 : decode cX1_driestToServe 37 = .ok (.iload_n 2, 1) := by decide +kernel
theorem dX1_driestToServe_38 : decode cX1_driestToServe 38 = .ok (.ireturn, 1) := by decide +kernel
set_option maxRecDepth 20000 in
theorem ggX1_paidFrom_X1_fareForAll : GoodIn wsX1_paidFrom wsX1_fareForAll := goodIn_r _ [10, 11, 12, 13, 14, 9, 15, 16, 2, 3, 4, 5, 17, 18, 19, 20, 21, 22, 23, 24, 25, 26, 27, 28, 29, 30, 31, 32, 33] (by decide +kernel) (by decide +kernel)
set_option maxRecDepth 20000 in
theorem gX1_paidFrom_X1_fareForAll : GoodIn wsX1_paidFrom (wsV RX1 127 RX1 yX1_fareForAll wsX1_fareForAll) := goodIn_app (goodIn_of _ (by decide +kernel)) ggX1_paidFrom_X1_fareForAll
theorem dX1_paidFrom_0 : decode cX1_paidFrom 0 = .ok (.aload_n 0, 1) := by decide +kernel
theorem dX1_paidFrom_1 : decode cX1_paidFrom 1 = .ok (.getfield 21, 3) := by decide +kernel
theorem dX1_paidFrom_4 : decode cX1_paidFrom 4 = .ok (.iload_n 1, 1) := by decide +kernel
theorem dX1_paidFrom_5 : decode cX1_paidFrom 5 = .ok (.iaload, 1) := by decide +kernel
theorem dX1_paidFrom_6 : decode cX1_paidFrom 6 = .ok (.aload_n 0, 1) := by decide +kernel
theorem dX1_paidFrom_7 : decode cX1_paidFrom 7 = .ok (.invokevirtual 127, 3) := by decide +kernel
theorem dX1_paidFrom_10 : decode cX1_paidFrom 10 = .ok (.invokestatic 133, 3) := by decide +kernel
theorem dX1_paidFrom_13 : decode cX1_paidFrom 13 = .ok (.ireturn, 1) := by decide +kernel
theorem dX1_totalWetness_0 : decode cX1_totalWetness 0 = .ok (.iconst 0, 1) := by decide +kernel
theorem dX1_totalWetness_1 : decode cX1_totalWetness 1 = .ok (.istore_n 1, 1) := by decide +kernel
theorem dX1_totalWetness_2 : decode cX1_totalWetness 2 = .ok (.iconst 0, 1) := by decide +kernel
theorem dX1_totalWetness_3 : decode cX1_totalWetness 3 = .ok (.istore_n 2, 1) := by decide +kernel
theorem dX1_totalWetness_4 : decode cX1_totalWetness 4 = .ok (.iload_n 2, 1) := by decide +kernel
theorem dX1_totalWetness_5 : decode cX1_totalWetness 5 = .ok (.aload_n 0, 1) := by decide +kernel
theorem dX1_totalWetness_6 : decode cX1_totalWetness 6 = .ok (.getfield 39, 3) := by decide +kernel
theorem dX1_totalWetness_9 : decode cX1_totalWetness 9 = .ok (.if_icmp .ge 18, 3) := by decide +kernel
theorem dX1_totalWetness_12 : decode cX1_totalWetness 12 = .ok (.iload_n 1, 1) := by decide +kernel
theorem dX1_totalWetness_13 : decode cX1_totalWetness 13 = .ok (.aload_n 0, 1) := by decide +kernel
theorem dX1_totalWetness_14 : decode cX1_totalWetness 14 = .ok (.getfield 15, 3) := by decide +kernel
theorem dX1_totalWetness_17 : decode cX1_totalWetness 17 = .ok (.iload_n 2, 1) := by decide +kernel
theorem dX1_totalWetness_18 : decode cX1_totalWetness 18 = .ok (.iaload, 1) := by decide +kernel
theorem dX1_totalWetness_19 : decode cX1_totalWetness 19 = .ok (.iadd, 1) := by decide +kernel
theorem dX1_totalWetness_20 : decode cX1_totalWetness 20 = .ok (.istore_n 1, 1) := by decide +kernel
theorem dX1_totalWetness_21 : decode cX1_totalWetness 21 = .ok (.iinc 2 1, 3) := by decide +kernel
theorem dX1_totalWetness_24 : decode cX1_totalWetness 24 = .ok (.goto (-20), 3) := by decide +kernel
theorem dX1_totalWetness_27 : decode cX1_totalWetness 27 = .ok (.iload_n 1, 1) := by decide +kernel
theorem dX1_totalWetness_28 : decode cX1_totalWetness 28 = .ok (.ireturn, 1) := by decide +kernel
theorem dX1_wettest_0 : decode cX1_wettest 0 = .ok (.bipush (-5), 2) := by decide +kernel
theorem dX1_wettest_2 : decode cX1_wettest 2 = .ok (.istore_n 1, 1) := by decide +kernel
theorem dX1_wettest_3 : decode cX1_wettest 3 = .ok (.iconst (-1), 1) := by decide +kernel
theorem dX1_wettest_4 : decode cX1_wettest 4 = .ok (.istore_n 2, 1) := by decide +kernel
theorem dX1_wettest_5 : decode cX1_wettest 5 = .ok (.iconst 0, 1) := by decide +kernel
theorem dX1_wettest_6 : decode cX1_wettest 6 = .ok (.istore_n 3, 1) := by decide +kernel
theorem dX1_wettest_7 : decode cX1_wettest 7 = .ok (.iload_n 3, 1) := by decide +kernel
theorem dX1_wettest_8 : decode cX1_wettest 8 = .ok (.aload_n 0, 1) := by decide +kernel
theorem dX1_wettest_9 : decode cX1_wettest 9 = .ok (.getfield 39, 3) := by decide +kernel
theorem dX1_wettest_12 : decode cX1_wettest 12 = .ok (.if_icmp .ge 28, 3) := by decide +kernel
theorem dX1_wettest_15 : decode cX1_wettest 15 = .ok (.aload_n 0, 1) := by decide +kernel
theorem dX1_wettest_16 : decode cX1_wettest 16 = .ok (.getfield 15, 3) := by decide +kernel
theorem dX1_wettest_19 : decode cX1_wettest 19 = .ok (.iload_n 3, 1) := by decide +kernel
theorem dX1_wettest_20 : decode cX1_wettest 20 = .ok (.iaload, 1) := by decide +kernel
theorem dX1_wettest_21 : decode cX1_wettest 21 = .ok (.iload_n 2, 1) := by decide +kernel
theorem dX1_wettest_22 : decode cX1_wettest 22 = .ok (.if_icmp .le 12, 3) := by decide +kernel
theorem dX1_wettest_25 : decode cX1_wettest 25 = .ok (.aload_n 0, 1) := by decide +kernel
theorem dX1_wettest_26 : decode cX1_wettest 26 = .ok (.getfield 15, 3) := by decide +kernel
theorem dX1_wettest_29 : decode cX1_wettest 29 = .ok (.iload_n 3, 1) := by decide +kernel
theorem dX1_wettest_30 : decode cX1_wettest 30 = .ok (.iaload, 1) := by decide +kernel
theorem dX1_wettest_31 : decode cX1_wettest 31 = .ok (.istore_n 2, 1) := by decide +kernel
theorem dX1_wettest_32 : decode cX1_wettest 32 = .ok (.iload_n 3, 1) := by decide +kernel
theorem dX1_wettest_33 : decode cX1_wettest 33 = .ok (.istore_n 1, 1) := by decide +kernel
theorem dX1_wettest_34 : decode cX1_wettest 34 = .ok (.iinc 3 1, 3) := by decide +kernel
theorem dX1_wettest_37 : decode cX1_wettest 37 = .ok (.goto (-30), 3) := by decide +kernel
theorem dX1_wettest_40 : decode cX1_wettest 40 = .ok (.iload_n 1, 1) := by decide +kernel
theorem dX1_wettest_41 : decode cX1_wettest 41 = .ok (.ireturn, 1) := by decide +kernel
end
section
theorem dX2_init_0 : decode cX2_init 0 = .ok (.aload_n 0, 1) := by decide +kernel
theorem dX2_init_1 : decode cX2_init 1 = .ok (.invokespecial 3, 3) := by decide +kernel
theorem dX2_init_4 : decode cX2_init 4 = .ok (.aload_n 0, 1) := by decide +kernel
theorem dX2_init_5 : decode cX2_init 5 = .ok (.bipush 60, 2) := by decide +kernel
theorem dX2_init_7 : decode cX2_init 7 = .ok (.newarray .char, 2) := by decide +kernel
theorem dX2_init_9 : decode cX2_init 9 = .ok (.putfield 11, 3) := by decide +kernel
theorem dX2_init_12 : decode cX2_init 12 = .ok (.aload_n 0, 1) := by decide +kernel
theorem dX2_init_13 : decode cX2_init 13 = .ok (.bipush 30, 2) := by decide +kernel
theorem dX2_init_15 : decode cX2_init 15 = .ok (.newarray .char, 2) := by decide +kernel
theorem dX2_init_17 : decode cX2_init 17 = .ok (.putfield 15, 3) := by decide +kernel
theorem dX2_init_20 : decode cX2_init 20 = .ok (.aload_n 0, 1) := by decide +kernel
theorem dX2_init_21 : decode cX2_init 21 = .ok (.bipush 30, 2) := by decide +kernel
theorem dX2_init_23 : decode cX2_init 23 = .ok (.newarray .int, 2) := by decide +kernel
theorem dX2_init_25 : decode cX2_init 25 = .ok (.putfield 18, 3) := by decide +kernel
theorem dX2_init_28 : decode cX2_init 28 = .ok (.aload_n 0, 1) := by decide +kernel
theorem dX2_init_29 : decode cX2_init 29 = .ok (.bipush 30, 2) := by decide +kernel
theorem dX2_init_31 : decode cX2_init 31 = .ok (.newarray .int, 2) := by decide +kernel
theorem dX2_init_33 : decode cX2_init 33 = .ok (.putfield 22, 3) := by decide +kernel
theorem dX2_init_36 : decode cX2_init 36 = .ok (.return_, 1) := by decide +kernel
set_option maxRecDepth 20000 in
theorem ggX3_init_X1_init : GoodIn wsX3_init wsX1_init := goodIn_r _ [20, 21, 2, 3, 22, 23, 24, 25, 26, 27, 28, 29, 44, 45, 46, 47, 48, 49, 50, 51, 52, 53, 54, 55, 56, 57, 58, 59, 60] (by decide +kernel) (by decide +kernel)
set_option maxRecDepth 20000 in
theorem gX3_init_X1_init_n9 : GoodIn wsX3_init (wsX1_init) := ggX3_init_X1_init
set_option maxRecDepth 20000 in
theorem ggX3_init_X0_init : GoodIn wsX3_init wsX0_init := goodIn_r _ [32, 33, 2, 3, 34, 35, 5, 6, 19, 20, 21, 22, 23, 24, 25, 26, 27, 28, 29, 68, 69, 44, 45, 46, 47, 48, 49, 50, 51, 52, 53, 54, 55, 56, 57, 58, 59, 60] (by decide +kernel) (by decide +kernel)
set_option maxRecDepth 20000 in
theorem gX3_init_X0_init : GoodIn wsX3_init (wsX0_init) := ggX3_init_X0_init
set_option maxRecDepth 20000 in
theorem ggX3_init_X2_init : GoodIn wsX3_init wsX2_init := goodIn_r _ [37, 38, 2, 3, 39, 40, 41, 22, 42, 43, 70, 71, 72, 73, 74, 75, 76] (by decide +kernel) (by decide +kernel)
set_option maxRecDepth 20000 in
theorem gX3_init_X2_init_n28 : GoodIn wsX3_init (wsX2_init) := ggX3_init_X2_init
theorem dX3_init_0 : decode cX3_init 0 = .ok (.aload_n 0, 1) := by decide +kernel
theorem dX3_init_1 : decode cX3_init 1 = .ok (.invokespecial 1, 3) := by decide +kernel
theorem dX3_init_4 : decode cX3_init 4 = .ok (.aload_n 0, 1) := by decide +kernel
theorem dX3_init_5 : decode cX3_init 5 = .ok (.new 7, 3) := by decide +kernel
theorem dX3_init_8 : decode cX3_init 8 = .ok (.dup, 1) := by decide +kernel
theorem dX3_init_9 : decode cX3_init 9 = .ok (.invokespecial 9, 3) := by decide +kernel
theorem dX3_init_12 : decode cX3_init 12 = .ok (.putfield 10, 3) := by decide +kernel
theorem dX3_init_15 : decode cX3_init 15 = .ok (.aload_n 0, 1) := by decide +kernel
theorem dX3_init_16 : decode cX3_init 16 = .ok (.new 7, 3) := by decide +kernel
theorem dX3_init_19 : decode cX3_init 19 = .ok (.dup, 1) := by decide +kernel
theorem dX3_init_20 : decode cX3_init 20 = .ok (.invokespecial 9, 3) := by decide +kernel
theorem dX3_init_23 : decode cX3_init 23 = .ok (.putfield 16, 3) := by decide +kernel
theorem dX3_init_26 : decode cX3_init 26 = .ok (.aload_n 0, 1) := by decide +kernel
theorem dX3_init_27 : decode cX3_init 27 = .ok (.new 19, 3) := by decide +kernel
theorem dX3_init_30 : decode cX3_init 30 = .ok (.dup, 1) := by decide +kernel
theorem dX3_init_31 : decode cX3_init 31 = .ok (.invokespecial 21, 3) := by decide +kernel
theorem dX3_init_34 : decode cX3_init 34 = .ok (.putfield 22, 3) := by decide +kernel
theorem dX3_init_37 : decode cX3_init 37 = .ok (.aload_n 0, 1) := by decide +kernel
theorem dX3_init_38 : decode cX3_init 38 = .ok (.new 26, 3) := by decide +kernel
theorem dX3_init_41 : decode cX3_init 41 = .ok (.dup, 1) := by decide +kernel
theorem dX3_init_42 : decode cX3_init 42 = .ok (.invokespecial 28, 3) := by decide +kernel
theorem dX3_init_45 : decode cX3_init 45 = .ok (.putfield 29, 3) := by decide +kernel
theorem dX3_init_48 : decode cX3_init 48 = .ok (.aload_n 0, 1) := by decide +kernel
theorem dX3_init_49 : decode cX3_init 49 = .ok (.bipush (-5), 2) := by decide +kernel
theorem dX3_init_51 : decode cX3_init 51 = .ok (.putfield 33, 3) := by decide +kernel
theorem dX3_init_54 : decode cX3_init 54 = .ok (.aload_n 0, 1) := by decide +kernel
theorem dX3_init_55 : decode cX3_init 55 = .ok (.bipush (-5), 2) := by decide +kernel
theorem dX3_init_57 : decode cX3_init 57 = .ok (.putfield 37, 3) := by decide +kernel
theorem dX3_init_60 : decode cX3_init 60 = .ok (.return_, 1) := by decide +kernel
set_option maxRecDepth 20000 in
theorem ggX3_come_X0_draft : GoodIn wsX3_come wsX0_draft := goodIn_r _ [7, 8, 9, 10, 6, 11, 12, 13, 14, 15, 16, 17, 18, 19, 20, 21, 22, 23, 24, 25, 26, 27, 28, 29, 30, 31, 32, 33, 34, 35, 36, 37, 38, 39, 62, 63, 64, 65, 66, 67, 68, 69, 70, 71, 72, 73, 74, 75, 76, 77, 78, 79, 80] (by decide +kernel) (by decide +kernel)
set_option maxRecDepth 20000 in
theorem gX3_come_X0_draft : GoodIn wsX3_come (wsV RX3 40 RX0 yX0_draft wsX0_draft) := goodIn_app (goodIn_of _ (by decide +kernel)) ggX3_come_X0_draft
set_option maxRecDepth 20000 in
theorem ggX3_come_X1_admit : GoodIn wsX3_come wsX1_admit := goodIn_r _ [43, 30, 31, 19, 24, 25, 26, 27, 28, 44, 45, 46, 64, 65, 66, 67, 68, 69, 70, 71, 72, 73, 74, 75, 76, 77, 78, 79, 80] (by decide +kernel) (by decide +kernel)
set_option maxRecDepth 20000 in
theorem gX3_come_X1_admit : GoodIn wsX3_come (wsV RX3 44 RX1 yX1_admit wsX1_admit) := goodIn_app (goodIn_of _ (by decide +kernel)) ggX3_come_X1_admit
set_option maxRecDepth 20000 in
theorem ggX3_come_X3_recorded : GoodIn wsX3_come wsX3_recorded := goodIn_r _ [50, 1, 51, 52, 53, 6, 54, 13, 12, 55, 56, 57, 58, 59, 60, 61, 62, 63] (by decide +kernel) (by decide +kernel)
set_option maxRecDepth 20000 in
theorem gX3_come_X3_recorded : GoodIn wsX3_come (wsV RX3 48 RX3 yX3_recorded wsX3_recorded) := goodIn_app (goodIn_of _ (by decide +kernel)) ggX3_come_X3_recorded
theorem dX3_come_0 : decode cX3_come 0 = .ok (.aload_n 0, 1) := by decide +kernel
theorem dX3_come_1 : decode cX3_come 1 = .ok (.getfield 22, 3) := by decide +kernel
theorem dX3_come_4 : decode cX3_come 4 = .ok (.aload_n 0, 1) := by decide +kernel
theorem dX3_come_5 : decode cX3_come 5 = .ok (.getfield 10, 3) := by decide +kernel
theorem dX3_come_8 : decode cX3_come 8 = .ok (.invokevirtual 40, 3) := by decide +kernel
theorem dX3_come_11 : decode cX3_come 11 = .ok (.aload_n 0, 1) := by decide +kernel
theorem dX3_come_12 : decode cX3_come 12 = .ok (.aload_n 0, 1) := by decide +kernel
theorem dX3_come_13 : decode cX3_come 13 = .ok (.getfield 10, 3) := by decide +kernel
theorem dX3_come_16 : decode cX3_come 16 = .ok (.iload_n 1, 1) := by decide +kernel
theorem dX3_come_17 : decode cX3_come 17 = .ok (.iload_n 2, 1) := by decide +kernel
theorem dX3_come_18 : decode cX3_come 18 = .ok (.iload_n 3, 1) := by decide +kernel
theorem dX3_come_19 : decode cX3_come 19 = .ok (.invokevirtual 44, 3) := by decide +kernel
theorem dX3_come_22 : decode cX3_come 22 = .ok (.invokevirtual 48, 3) := by decide +kernel
theorem dX3_come_25 : decode cX3_come 25 = .ok (.ireturn, 1) := by decide +kernel
set_option maxRecDepth 20000 in
theorem ggX3_leave_X0_draft : GoodIn wsX3_leave wsX0_draft := goodIn_r _ [7, 8, 9, 10, 6, 11, 12, 13, 14, 15, 16, 17, 18, 19, 20, 21, 22, 23, 24, 25, 26, 27, 28, 29, 30, 31, 32, 33, 34, 35, 36, 37, 38, 39, 71, 72, 73, 74, 75, 76, 77, 78, 79, 80, 81, 82, 83, 84, 85, 86, 87, 88, 89] (by decide +kernel) (by decide +kernel)
set_option maxRecDepth 20000 in
theorem gX3_leave_X0_draft : GoodIn wsX3_leave (wsV RX3 40 RX0 yX0_draft wsX0_draft) := goodIn_app (goodIn_of _ (by decide +kernel)) ggX3_leave_X0_draft
set_option maxRecDepth 20000 in
theorem ggX3_leave_X1_dismiss : GoodIn wsX3_leave wsX1_dismiss := goodIn_r _ [43, 24, 32, 44, 45, 46, 17, 47, 30, 48, 49, 50, 51, 19, 25, 26, 27, 28, 52, 53, 54, 20, 21, 22, 23, 73, 74, 75, 76, 77, 78, 79, 80, 81, 82, 83, 84, 85, 86, 87, 88, 89] (by decide +kernel) (by decide +kernel)
set_option maxRecDepth 20000 in
theorem gX3_leave_X1_dismiss : GoodIn wsX3_leave (wsV RX3 52 RX1 yX1_dismiss wsX1_dismiss) := goodIn_app (goodIn_of _ (by decide +kernel)) ggX3_leave_X1_dismiss
set_option maxRecDepth 20000 in
theorem ggX3_leave_X3_recorded : GoodIn wsX3_leave wsX3_recorded := goodIn_r _ [59, 1, 60, 61, 62, 6, 63, 13, 12, 64, 65, 66, 67, 68, 69, 70, 71, 72] (by decide +kernel) (by decide +kernel)
set_option maxRecDepth 20000 in
theorem gX3_leave_X3_recorded : GoodIn wsX3_leave (wsV RX3 48 RX3 yX3_recorded wsX3_recorded) := goodIn_app (goodIn_of _ (by decide +kernel)) ggX3_leave_X3_recorded
theorem dX3_leave_0 : decode cX3_leave 0 = .ok (.aload_n 0, 1) := by decide +kernel
theorem dX3_leave_1 : decode cX3_leave 1 = .ok (.getfield 22, 3) := by decide +kernel
theorem dX3_leave_4 : decode cX3_leave 4 = .ok (.aload_n 0, 1) := by decide +kernel
theorem dX3_leave_5 : decode cX3_leave 5 = .ok (.getfield 10, 3) := by decide +kernel
theorem dX3_leave_8 : decode cX3_leave 8 = .ok (.invokevirtual 40, 3) := by decide +kernel
theorem dX3_leave_11 : decode cX3_leave 11 = .ok (.aload_n 0, 1) := by decide +kernel
theorem dX3_leave_12 : decode cX3_leave 12 = .ok (.aload_n 0, 1) := by decide +kernel
theorem dX3_leave_13 : decode cX3_leave 13 = .ok (.getfield 10, 3) := by decide +kernel
theorem dX3_leave_16 : decode cX3_leave 16 = .ok (.iload_n 1, 1) := by decide +kernel
theorem dX3_leave_17 : decode cX3_leave 17 = .ok (.invokevirtual 52, 3) := by decide +kernel
theorem dX3_leave_20 : decode cX3_leave 20 = .ok (.invokevirtual 48, 3) := by decide +kernel
theorem dX3_leave_23 : decode cX3_leave 23 = .ok (.ireturn, 1) := by decide +kernel
set_option maxRecDepth 20000 in
theorem ggX3_letAhead_X0_draft : GoodIn wsX3_letAhead wsX0_draft := goodIn_r _ [7, 8, 9, 10, 6, 11, 12, 13, 14, 15, 16, 17, 18, 19, 20, 21, 22, 23, 24, 25, 26, 27, 28, 29, 30, 31, 32, 33, 34, 35, 36, 37, 38, 39, 67, 68, 69, 70, 71, 72, 73, 74, 75, 76, 77, 78, 79, 80, 81, 82, 83, 84, 85] (by decide +kernel) (by decide +kernel)
set_option maxRecDepth 20000 in
theorem gX3_letAhead_X0_draft : GoodIn wsX3_letAhead (wsV RX3 40 RX0 yX0_draft wsX0_draft) := goodIn_app (goodIn_of _ (by decide +kernel)) ggX3_letAhead_X0_draft
set_option maxRecDepth 20000 in
theorem ggX3_letAhead_X1_changePlaces : GoodIn wsX3_letAhead wsX1_changePlaces := goodIn_r _ [43, 19, 24, 25, 26, 27, 28, 44, 45, 46, 17, 47, 30, 48, 49, 50, 69, 70, 71, 72, 73, 74, 75, 76, 77, 78, 79, 80, 81, 82, 83, 84, 85] (by decide +kernel) (by decide +kernel)
set_option maxRecDepth 20000 in
theorem gX3_letAhead_X1_changePlaces : GoodIn wsX3_letAhead (wsV RX3 55 RX1 yX1_changePlaces wsX1_changePlaces) := goodIn_app (goodIn_of _ (by decide +kernel)) ggX3_letAhead_X1_changePlaces
set_option maxRecDepth 20000 in
theorem ggX3_letAhead_X3_recorded : GoodIn wsX3_letAhead wsX3_recorded := goodIn_r _ [55, 1, 56, 57, 58, 6, 59, 13, 12, 60, 61, 62, 63, 64, 65, 66, 67, 68] (by decide +kernel) (by decide +kernel)
set_option maxRecDepth 20000 in
theorem gX3_letAhead_X3_recorded : GoodIn wsX3_letAhead (wsV RX3 48 RX3 yX3_recorded wsX3_recorded) := goodIn_app (goodIn_of _ (by decide +kernel)) ggX3_letAhead_X3_recorded
theorem dX3_letAhead_0 : decode cX3_letAhead 0 = .ok (.aload_n 0, 1) := by decide +kernel
theorem dX3_letAhead_1 : decode cX3_letAhead 1 = .ok (.getfield 22, 3) := by decide +kernel
theorem dX3_letAhead_4 : decode cX3_letAhead 4 = .ok (.aload_n 0, 1) := by decide +kernel
theorem dX3_letAhead_5 : decode cX3_letAhead 5 = .ok (.getfield 10, 3) := by decide +kernel
theorem dX3_letAhead_8 : decode cX3_letAhead 8 = .ok (.invokevirtual 40, 3) := by decide +kernel
theorem dX3_letAhead_11 : decode cX3_letAhead 11 = .ok (.aload_n 0, 1) := by decide +kernel
theorem dX3_letAhead_12 : decode cX3_letAhead 12 = .ok (.aload_n 0, 1) := by decide +kernel
theorem dX3_letAhead_13 : decode cX3_letAhead 13 = .ok (.getfield 10, 3) := by decide +kernel
theorem dX3_letAhead_16 : decode cX3_letAhead 16 = .ok (.iload_n 1, 1) := by decide +kernel
theorem dX3_letAhead_17 : decode cX3_letAhead 17 = .ok (.invokevirtual 55, 3) := by decide +kernel
theorem dX3_letAhead_20 : decode cX3_letAhead 20 = .ok (.invokevirtual 48, 3) := by decide +kernel
theorem dX3_letAhead_23 : decode cX3_letAhead 23 = .ok (.ireturn, 1) := by decide +kernel
set_option maxRecDepth 20000 in
theorem ggX3_swap_X0_draft : GoodIn wsX3_swap wsX0_draft := goodIn_r _ [7, 8, 9, 10, 6, 11, 12, 13, 14, 15, 16, 17, 18, 19, 20, 21, 22, 23, 24, 25, 26, 27, 28, 29, 30, 31, 32, 33, 34, 35, 36, 37, 38, 39, 71, 72, 73, 74, 75, 76, 77, 78, 79, 80, 81, 82, 83, 84, 85, 86, 87, 88, 89] (by decide +kernel) (by decide +kernel)
set_option maxRecDepth 20000 in
theorem gX3_swap_X0_draft : GoodIn wsX3_swap (wsV RX3 40 RX0 yX0_draft wsX0_draft) := goodIn_app (goodIn_of _ (by decide +kernel)) ggX3_swap_X0_draft
set_option maxRecDepth 20000 in
theorem ggX3_swap_X1_swapUmbrellas : GoodIn wsX3_swap wsX1_swapUmbrellas := goodIn_r _ [43, 27, 28, 37, 44, 45, 46, 17, 47, 30, 48, 49, 50, 51, 24, 52, 53, 54, 73, 74, 75, 76, 77, 78, 79, 80, 81, 82, 83, 84, 85, 86, 87, 88, 89] (by decide +kernel) (by decide +kernel)
set_option maxRecDepth 20000 in
theorem gX3_swap_X1_swapUmbrellas : GoodIn wsX3_swap (wsV RX3 58 RX1 yX1_swapUmbrellas wsX1_swapUmbrellas) := goodIn_app (goodIn_of _ (by decide +kernel)) ggX3_swap_X1_swapUmbrellas
set_option maxRecDepth 20000 in
theorem ggX3_swap_X3_recorded : GoodIn wsX3_swap wsX3_recorded := goodIn_r _ [59, 1, 60, 61, 62, 6, 63, 13, 12, 64, 65, 66, 67, 68, 69, 70, 71, 72] (by decide +kernel) (by decide +kernel)
set_option maxRecDepth 20000 in
theorem gX3_swap_X3_recorded : GoodIn wsX3_swap (wsV RX3 48 RX3 yX3_recorded wsX3_recorded) := goodIn_app (goodIn_of _ (by decide +kernel)) ggX3_swap_X3_recorded
theorem dX3_swap_0 : decode cX3_swap 0 = .ok (.aload_n 0, 1) := by decide +kernel
theorem dX3_swap_1 : decode cX3_swap 1 = .ok (.getfield 22, 3) := by decide +kernel
theorem dX3_swap_4 : decode cX3_swap 4 = .ok (.aload_n 0, 1) := by decide +kernel
theorem dX3_swap_5 : decode cX3_swap 5 = .ok (.getfield 10, 3) := by decide +kernel
theorem dX3_swap_8 : decode cX3_swap 8 = .ok (.invokevirtual 40, 3) := by decide +kernel
theorem dX3_swap_11 : decode cX3_swap 11 = .ok (.aload_n 0, 1) := by decide +kernel
theorem dX3_swap_12 : decode cX3_swap 12 = .ok (.aload_n 0, 1) := by decide +kernel
theorem dX3_swap_13 : decode cX3_swap 13 = .ok (.getfield 10, 3) := by decide +kernel
theorem dX3_swap_16 : decode cX3_swap 16 = .ok (.iload_n 1, 1) := by decide +kernel
theorem dX3_swap_17 : decode cX3_swap 17 = .ok (.invokevirtual 58, 3) := by decide +kernel
theorem dX3_swap_20 : decode cX3_swap 20 = .ok (.invokevirtual 48, 3) := by decide +kernel
theorem dX3_swap_23 : decode cX3_swap 23 = .ok (.ireturn, 1) := by decide +kernel
set_option maxRecDepth 20000 in
theorem ggX3_set_X0_draft : GoodIn wsX3_set wsX0_draft := goodIn_r _ [7, 8, 9, 10, 6, 11, 12, 13, 14, 15, 16, 17, 18, 19, 20, 21, 22, 23, 24, 25, 26, 27, 28, 29, 30, 31, 32, 33, 34, 35, 36, 37, 38, 39, 62, 63, 64, 65, 66, 67, 68, 69, 70, 71, 72, 73, 74, 75, 76, 77, 78, 79, 80] (by decide +kernel) (by decide +kernel)
set_option maxRecDepth 20000 in
theorem gX3_set_X0_draft : GoodIn wsX3_set (wsV RX3 40 RX0 yX0_draft wsX0_draft) := goodIn_app (goodIn_of _ (by decide +kernel)) ggX3_set_X0_draft
set_option maxRecDepth 20000 in
theorem ggX3_set_X1_changeSetting : GoodIn wsX3_set wsX1_changeSetting := goodIn_r _ [43, 29, 44, 45, 46, 64, 65, 66, 67, 68, 69, 70, 71, 72, 73, 74, 75, 76, 77, 78, 79, 80] (by decide +kernel) (by decide +kernel)
set_option maxRecDepth 20000 in
theorem gX3_set_X1_changeSetting : GoodIn wsX3_set (wsV RX3 61 RX1 yX1_changeSetting wsX1_changeSetting) := goodIn_app (goodIn_of _ (by decide +kernel)) ggX3_set_X1_changeSetting
set_option maxRecDepth 20000 in
theorem ggX3_set_X3_recorded : GoodIn wsX3_set wsX3_recorded := goodIn_r _ [50, 1, 51, 52, 53, 6, 54, 13, 12, 55, 56, 57, 58, 59, 60, 61, 62, 63] (by decide +kernel) (by decide +kernel)
set_option maxRecDepth 20000 in
theorem gX3_set_X3_recorded : GoodIn wsX3_set (wsV RX3 48 RX3 yX3_recorded wsX3_recorded) := goodIn_app (goodIn_of _ (by decide +kernel)) ggX3_set_X3_recorded
theorem dX3_set_0 : decode cX3_set 0 = .ok (.aload_n 0, 1) := by decide +kernel
theorem dX3_set_1 : decode cX3_set 1 = .ok (.getfield 22, 3) := by decide +kernel
theorem dX3_set_4 : decode cX3_set 4 = .ok (.aload_n 0, 1) := by decide +kernel
theorem dX3_set_5 : decode cX3_set 5 = .ok (.getfield 10, 3) := by decide +kernel
theorem dX3_set_8 : decode cX3_set 8 = .ok (.invokevirtual 40, 3) := by decide +kernel
theorem dX3_set_11 : decode cX3_set 11 = .ok (.aload_n 0, 1) := by decide +kernel
theorem dX3_set_12 : decode cX3_set 12 = .ok (.aload_n 0, 1) := by decide +kernel
theorem dX3_set_13 : decode cX3_set 13 = .ok (.getfield 10, 3) := by decide +kernel
theorem dX3_set_16 : decode cX3_set 16 = .ok (.iload_n 1, 1) := by decide +kernel
theorem dX3_set_17 : decode cX3_set 17 = .ok (.iload_n 2, 1) := by decide +kernel
theorem dX3_set_18 : decode cX3_set 18 = .ok (.invokevirtual 61, 3) := by decide +kernel
theorem dX3_set_21 : decode cX3_set 21 = .ok (.invokevirtual 48, 3) := by decide +kernel
theorem dX3_set_24 : decode cX3_set 24 = .ok (.ireturn, 1) := by decide +kernel
set_option maxRecDepth 20000 in
theorem ggX3_gust_X0_draft : GoodIn wsX3_gust wsX0_draft := goodIn_r _ [7, 8, 9, 10, 6, 11, 12, 13, 14, 15, 16, 17, 18, 19, 20, 21, 22, 23, 24, 25, 26, 27, 28, 29, 30, 31, 32, 33, 34, 35, 36, 37, 38, 39, 107, 108, 109, 110, 111, 112, 113, 114, 115, 116, 117, 118, 119, 120, 121, 122, 123, 124, 125] (by decide +kernel) (by decide +kernel)
set_option maxRecDepth 20000 in
theorem gX3_gust_X0_draft : GoodIn wsX3_gust (wsV RX3 40 RX0 yX0_draft wsX0_draft) := goodIn_app (goodIn_of _ (by decide +kernel)) ggX3_gust_X0_draft
set_option maxRecDepth 20000 in
theorem ggX3_gust_X1_rain : GoodIn wsX3_gust wsX1_rain := goodIn_r _ [43, 30, 24, 38, 44, 45, 46, 47, 48, 49, 50, 51, 52, 17, 53, 54, 55, 56, 57, 58, 59, 60, 61, 62, 63, 64, 65, 27, 66, 67, 68, 69, 70, 71, 72, 73, 74, 75, 76, 77, 78, 79, 80, 81, 82, 83, 84, 25, 33, 85, 86, 87, 88, 19, 26, 28, 89, 90, 91, 20, 21, 22, 23, 109, 110, 111, 112, 113, 114, 115, 116, 117, 118, 119, 120, 121, 122, 123, 124, 125] (by decide +kernel) (by decide +kernel)
set_option maxRecDepth 20000 in
theorem gX3_gust_X1_rain : GoodIn wsX3_gust (wsV RX3 65 RX1 yX1_rain wsX1_rain) := goodIn_app (goodIn_of _ (by decide +kernel)) ggX3_gust_X1_rain
set_option maxRecDepth 20000 in
theorem ggX3_gust_X3_recorded : GoodIn wsX3_gust wsX3_recorded := goodIn_r _ [95, 1, 96, 97, 98, 6, 99, 13, 12, 100, 101, 102, 103, 104, 105, 106, 107, 108] (by decide +kernel) (by decide +kernel)
set_option maxRecDepth 20000 in
theorem gX3_gust_X3_recorded : GoodIn wsX3_gust (wsV RX3 48 RX3 yX3_recorded wsX3_recorded) := goodIn_app (goodIn_of _ (by decide +kernel)) ggX3_gust_X3_recorded
theorem dX3_gust_0 : decode cX3_gust 0 = .ok (.aload_n 0, 1) := by decide +kernel
theorem dX3_gust_1 : decode cX3_gust 1 = .ok (.getfield 22, 3) := by decide +kernel
theorem dX3_gust_4 : decode cX3_gust 4 = .ok (.aload_n 0, 1) := by decide +kernel
theorem dX3_gust_5 : decode cX3_gust 5 = .ok (.getfield 10, 3) := by decide +kernel
theorem dX3_gust_8 : decode cX3_gust 8 = .ok (.invokevirtual 40, 3) := by decide +kernel
theorem dX3_gust_11 : decode cX3_gust 11 = .ok (.aload_n 0, 1) := by decide +kernel
theorem dX3_gust_12 : decode cX3_gust 12 = .ok (.aload_n 0, 1) := by decide +kernel
theorem dX3_gust_13 : decode cX3_gust 13 = .ok (.getfield 10, 3) := by decide +kernel
theorem dX3_gust_16 : decode cX3_gust 16 = .ok (.iload_n 1, 1) := by decide +kernel
theorem dX3_gust_17 : decode cX3_gust 17 = .ok (.iload_n 2, 1) := by decide +kernel
theorem dX3_gust_18 : decode cX3_gust 18 = .ok (.invokevirtual 65, 3) := by decide +kernel
theorem dX3_gust_21 : decode cX3_gust 21 = .ok (.invokevirtual 48, 3) := by decide +kernel
theorem dX3_gust_24 : decode cX3_gust 24 = .ok (.ireturn, 1) := by decide +kernel
set_option maxRecDepth 20000 in
theorem ggX3_pass_X0_draft : GoodIn wsX3_pass wsX0_draft := goodIn_r _ [7, 8, 9, 10, 6, 11, 12, 13, 14, 15, 16, 17, 18, 19, 20, 21, 22, 23, 24, 25, 26, 27, 28, 29, 30, 31, 32, 33, 34, 35, 36, 37, 38, 39, 67, 68, 69, 70, 71, 72, 73, 74, 75, 76, 77, 78, 79, 80, 81, 82, 83, 84, 85] (by decide +kernel) (by decide +kernel)
set_option maxRecDepth 20000 in
theorem gX3_pass_X0_draft : GoodIn wsX3_pass (wsV RX3 40 RX0 yX0_draft wsX0_draft) := goodIn_app (goodIn_of _ (by decide +kernel)) ggX3_pass_X0_draft
set_option maxRecDepth 20000 in
theorem ggX3_pass_X1_dry : GoodIn wsX3_pass wsX1_dry := goodIn_r _ [43, 39, 44, 30, 24, 29, 45, 46, 47, 48, 49, 50, 51, 69, 70, 71, 72, 73, 74, 75, 76, 77, 78, 79, 80, 81, 82, 83, 84, 85] (by decide +kernel) (by decide +kernel)
set_option maxRecDepth 20000 in
theorem gX3_pass_X1_dry : GoodIn wsX3_pass (wsV RX3 68 RX1 yX1_dry wsX1_dry) := goodIn_app (goodIn_of _ (by decide +kernel)) ggX3_pass_X1_dry
set_option maxRecDepth 20000 in
theorem ggX3_pass_X3_recorded : GoodIn wsX3_pass wsX3_recorded := goodIn_r _ [55, 1, 56, 57, 58, 6, 59, 13, 12, 60, 61, 62, 63, 64, 65, 66, 67, 68] (by decide +kernel) (by decide +kernel)
set_option maxRecDepth 20000 in
theorem gX3_pass_X3_recorded : GoodIn wsX3_pass (wsV RX3 48 RX3 yX3_recorded wsX3_recorded) := goodIn_app (goodIn_of _ (by decide +kernel)) ggX3_pass_X3_recorded
theorem dX3_pass_0 : decode cX3_pass 0 = .ok (.aload_n 0, 1) := by decide +kernel
theorem dX3_pass_1 : decode cX3_pass 1 = .ok (.getfield 22, 3) := by decide +kernel
theorem dX3_pass_4 : decode cX3_pass 4 = .ok (.aload_n 0, 1) := by decide +kernel
theorem dX3_pass_5 : decode cX3_pass 5 = .ok (.getfield 10, 3) := by decide +kernel
theorem dX3_pass_8 : decode cX3_pass 8 = .ok (.invokevirtual 40, 3) := by decide +kernel
theorem dX3_pass_11 : decode cX3_pass 11 = .ok (.aload_n 0, 1) := by decide +kernel
theorem dX3_pass_12 : decode cX3_pass 12 = .ok (.aload_n 0, 1) := by decide +kernel
theorem dX3_pass_13 : decode cX3_pass 13 = .ok (.getfield 10, 3) := by decide +kernel
theorem dX3_pass_16 : decode cX3_pass 16 = .ok (.iload_n 1, 1) := by decide +kernel
theorem dX3_pass_17 : decode cX3_pass 17 = .ok (.invokevirtual 68, 3) := by decide +kernel
theorem dX3_pass_20 : decode cX3_pass 20 = .ok (.invokevirtual 48, 3) := by decide +kernel
theorem dX3_pass_23 : decode cX3_pass 23 = .ok (.ireturn, 1) := by decide +kernel
set_option maxRecDepth 20000 in
theorem ggX3_serve_X0_draft : GoodIn wsX3_serve wsX0_draft := goodIn_r _ [7, 8, 9, 10, 6, 11, 12, 13, 14, 15, 16, 17, 18, 19, 20, 21, 22, 23, 24, 25, 26, 27, 28, 29, 30, 31, 32, 33, 34, 35, 36, 37, 38, 39, 87, 88, 89, 90, 91, 92, 93, 94, 95, 96, 97, 98, 99, 100, 101, 102, 103, 104, 105] (by decide +kernel) (by decide +kernel)
set_option maxRecDepth 20000 in
theorem gX3_serve_X0_draft : GoodIn wsX3_serve (wsV RX3 40 RX0 yX0_draft wsX0_draft) := goodIn_app (goodIn_of _ (by decide +kernel)) ggX3_serve_X0_draft
set_option maxRecDepth 20000 in
theorem ggX3_serve_X1_serveFirst : GoodIn wsX3_serve wsX1_serveFirst := goodIn_r _ [43, 30, 35, 36, 34, 44, 45, 46, 17, 47, 29, 48, 49, 50, 51, 52, 53, 54, 55, 24, 56, 57, 58, 59, 26, 60, 61, 62, 63, 64, 65, 66, 67, 19, 25, 27, 28, 68, 69, 70, 20, 21, 22, 23, 89, 90, 91, 92, 93, 94, 95, 96, 97, 98, 99, 100, 101, 102, 103, 104, 105] (by decide +kernel) (by decide +kernel)
set_option maxRecDepth 20000 in
theorem gX3_serve_X1_serveFirst : GoodIn wsX3_serve (wsV RX3 71 RX1 yX1_serveFirst wsX1_serveFirst) := goodIn_app (goodIn_of _ (by decide +kernel)) ggX3_serve_X1_serveFirst
set_option maxRecDepth 20000 in
theorem ggX3_serve_X3_recorded : GoodIn wsX3_serve wsX3_recorded := goodIn_r _ [75, 1, 76, 77, 78, 6, 79, 13, 12, 80, 81, 82, 83, 84, 85, 86, 87, 88] (by decide +kernel) (by decide +kernel)
set_option maxRecDepth 20000 in
theorem gX3_serve_X3_recorded : GoodIn wsX3_serve (wsV RX3 48 RX3 yX3_recorded wsX3_recorded) := goodIn_app (goodIn_of _ (by decide +kernel)) ggX3_serve_X3_recorded
theorem dX3_serve_0 : decode cX3_serve 0 = .ok (.aload_n 0, 1) := by decide +kernel
theorem dX3_serve_1 : decode cX3_serve 1 = .ok (.getfield 22, 3) := by decide +kernel
theorem dX3_serve_4 : decode cX3_serve 4 = .ok (.aload_n 0, 1) := by decide +kernel
theorem dX3_serve_5 : decode cX3_serve 5 = .ok (.getfield 10, 3) := by decide +kernel
theorem dX3_serve_8 : decode cX3_serve 8 = .ok (.invokevirtual 40, 3) := by decide +kernel
theorem dX3_serve_11 : decode cX3_serve 11 = .ok (.aload_n 0, 1) := by decide +kernel
theorem dX3_serve_12 : decode cX3_serve 12 = .ok (.aload_n 0, 1) := by decide +kernel
theorem dX3_serve_13 : decode cX3_serve 13 = .ok (.getfield 10, 3) := by decide +kernel
theorem dX3_serve_16 : decode cX3_serve 16 = .ok (.invokevirtual 71, 3) := by decide +kernel
theorem dX3_serve_19 : decode cX3_serve 19 = .ok (.invokevirtual 48, 3) := by decide +kernel
theorem dX3_serve_22 : decode cX3_serve 22 = .ok (.ireturn, 1) := by decide +kernel
set_option maxRecDepth 20000 in
theorem ggX3_undo_X0_takeLatest : GoodIn wsX3_undo wsX0_takeLatest := goodIn_r _ [8, 9, 10, 44, 45] (by decide +kernel) (by decide +kernel)
set_option maxRecDepth 20000 in
theorem gX3_undo_X0_takeLatest : GoodIn wsX3_undo (wsV RX3 117 RX0 yX0_takeLatest wsX0_takeLatest) := goodIn_app (goodIn_of _ (by decide +kernel)) ggX3_undo_X0_takeLatest
set_option maxRecDepth 20000 in
theorem ggX3_undo_X1_copyFrom : GoodIn wsX3_undo wsX1_copyFrom := goodIn_r _ [15, 16, 17, 18, 19, 20, 21, 22, 23, 24, 25, 26, 27, 28, 29, 30, 31, 32, 33, 34, 35, 36, 46, 47, 48, 49, 50, 51, 52, 53, 54, 55, 56, 57, 58, 59, 60, 61, 62] (by decide +kernel) (by decide +kernel)
set_option maxRecDepth 20000 in
theorem gX3_undo_X1_copyFrom : GoodIn wsX3_undo (wsV RX3 111 RX1 yX1_copyFrom wsX1_copyFrom) := goodIn_app (goodIn_of _ (by decide +kernel)) ggX3_undo_X1_copyFrom
theorem dX3_undo_0 : decode cX3_undo 0 = .ok (.aload_n 0, 1) := by decide +kernel
theorem dX3_undo_1 : decode cX3_undo 1 = .ok (.getfield 22, 3) := by decide +kernel
theorem dX3_undo_4 : decode cX3_undo 4 = .ok (.getfield 114, 3) := by decide +kernel
theorem dX3_undo_7 : decode cX3_undo 7 = .ok (.ifCond .ne 6, 3) := by decide +kernel
theorem dX3_undo_10 : decode cX3_undo 10 = .ok (.bipush (-5), 2) := by decide +kernel
theorem dX3_undo_12 : decode cX3_undo 12 = .ok (.ireturn, 1) := by decide +kernel
theorem dX3_undo_13 : decode cX3_undo 13 = .ok (.aload_n 0, 1) := by decide +kernel
theorem dX3_undo_14 : decode cX3_undo 14 = .ok (.getfield 10, 3) := by decide +kernel
theorem dX3_undo_17 : decode cX3_undo 17 = .ok (.aload_n 0, 1) := by decide +kernel
theorem dX3_undo_18 : decode cX3_undo 18 = .ok (.getfield 22, 3) := by decide +kernel
theorem dX3_undo_21 : decode cX3_undo 21 = .ok (.invokevirtual 117, 3) := by decide +kernel
theorem dX3_undo_24 : decode cX3_undo 24 = .ok (.invokevirtual 111, 3) := by decide +kernel
theorem dX3_undo_27 : decode cX3_undo 27 = .ok (.aload_n 0, 1) := by decide +kernel
theorem dX3_undo_28 : decode cX3_undo 28 = .ok (.getfield 22, 3) := by decide +kernel
theorem dX3_undo_31 : decode cX3_undo 31 = .ok (.getfield 114, 3) := by decide +kernel
theorem dX3_undo_34 : decode cX3_undo 34 = .ok (.ireturn, 1) := by decide +kernel
set_option maxRecDepth 20000 in
theorem ggX3_restore_X0_draft : GoodIn wsX3_restore wsX0_draft := goodIn_r _ [10, 11, 12, 13, 9, 14, 15, 16, 17, 18, 19, 20, 21, 22, 23, 24, 25, 26, 27, 28, 29, 30, 31, 32, 33, 34, 35, 36, 37, 38, 39, 40, 41, 42, 77, 78, 60, 61, 62, 63, 64, 65, 66, 67, 68, 69, 70, 71, 72, 73, 74, 75, 76] (by decide +kernel) (by decide +kernel)
set_option maxRecDepth 20000 in
theorem gX3_restore_X0_draft : GoodIn wsX3_restore (wsV RX3 40 RX0 yX0_draft wsX0_draft) := goodIn_app (goodIn_of _ (by decide +kernel)) ggX3_restore_X0_draft
set_option maxRecDepth 20000 in
theorem ggX3_restore_X1_copyFrom : GoodIn wsX3_restore wsX1_copyFrom := goodIn_r _ [21, 22, 23, 24, 25, 26, 27, 28, 29, 30, 31, 32, 33, 34, 35, 36, 37, 38, 39, 40, 41, 42, 60, 61, 62, 63, 64, 65, 66, 67, 68, 69, 70, 71, 72, 73, 74, 75, 76] (by decide +kernel) (by decide +kernel)
set_option maxRecDepth 20000 in
theorem gX3_restore_X1_copyFrom : GoodIn wsX3_restore (wsV RX3 111 RX1 yX1_copyFrom wsX1_copyFrom) := goodIn_app (goodIn_of _ (by decide +kernel)) ggX3_restore_X1_copyFrom
set_option maxRecDepth 20000 in
theorem ggX3_restore_X3_recorded : GoodIn wsX3_restore wsX3_recorded := goodIn_r _ [48, 2, 49, 50, 51, 9, 52, 16, 15, 53, 54, 55, 56, 57, 58, 59, 77, 78] (by decide +kernel) (by decide +kernel)
set_option maxRecDepth 20000 in
theorem gX3_restore_X3_recorded : GoodIn wsX3_restore (wsV RX3 48 RX3 yX3_recorded wsX3_recorded) := goodIn_app (goodIn_of _ (by decide +kernel)) ggX3_restore_X3_recorded
theorem dX3_restore_0 : decode cX3_restore 0 = .ok (.aload_n 0, 1) := by decide +kernel
theorem dX3_restore_1 : decode cX3_restore 1 = .ok (.getfield 120, 3) := by decide +kernel
theorem dX3_restore_4 : decode cX3_restore 4 = .ok (.ifCond .ne 6, 3) := by decide +kernel
theorem dX3_restore_7 : decode cX3_restore 7 = .ok (.bipush (-5), 2) := by decide +kernel
theorem dX3_restore_9 : decode cX3_restore 9 = .ok (.ireturn, 1) := by decide +kernel
theorem dX3_restore_10 : decode cX3_restore 10 = .ok (.aload_n 0, 1) := by decide +kernel
theorem dX3_restore_11 : decode cX3_restore 11 = .ok (.getfield 22, 3) := by decide +kernel
theorem dX3_restore_14 : decode cX3_restore 14 = .ok (.aload_n 0, 1) := by decide +kernel
theorem dX3_restore_15 : decode cX3_restore 15 = .ok (.getfield 10, 3) := by decide +kernel
theorem dX3_restore_18 : decode cX3_restore 18 = .ok (.invokevirtual 40, 3) := by decide +kernel
theorem dX3_restore_21 : decode cX3_restore 21 = .ok (.aload_n 0, 1) := by decide +kernel
theorem dX3_restore_22 : decode cX3_restore 22 = .ok (.getfield 10, 3) := by decide +kernel
theorem dX3_restore_25 : decode cX3_restore 25 = .ok (.aload_n 0, 1) := by decide +kernel
theorem dX3_restore_26 : decode cX3_restore 26 = .ok (.getfield 16, 3) := by decide +kernel
theorem dX3_restore_29 : decode cX3_restore 29 = .ok (.invokevirtual 111, 3) := by decide +kernel
theorem dX3_restore_32 : decode cX3_restore 32 = .ok (.aload_n 0, 1) := by decide +kernel
theorem dX3_restore_33 : decode cX3_restore 33 = .ok (.aload_n 0, 1) := by decide +kernel
theorem dX3_restore_34 : decode cX3_restore 34 = .ok (.getfield 10, 3) := by decide +kernel
theorem dX3_restore_37 : decode cX3_restore 37 = .ok (.getfield 124, 3) := by decide +kernel
theorem dX3_restore_40 : decode cX3_restore 40 = .ok (.invokevirtual 48, 3) := by decide +kernel
theorem dX3_restore_43 : decode cX3_restore 43 = .ok (.ireturn, 1) := by decide +kernel
set_option maxRecDepth 20000 in
theorem ggX3_person_X1_isPlace : GoodIn wsX3_person wsX1_isPlace := goodIn_r _ [12, 13, 46, 47, 48, 49, 50, 51, 52, 53, 54, 55, 56, 57, 58, 59, 60, 61, 62] (by decide +kernel) (by decide +kernel)
set_option maxRecDepth 20000 in
theorem gX3_person_X1_isPlace : GoodIn wsX3_person (wsV RX3 127 RX1 yX1_isPlace wsX1_isPlace) := goodIn_app (goodIn_of _ (by decide +kernel)) ggX3_person_X1_isPlace
set_option maxRecDepth 20000 in
theorem ggX3_person_X1_leastReached : GoodIn wsX3_person wsX1_leastReached := goodIn_r _ [17, 18, 19, 20, 21, 22, 46, 47, 48, 49, 50, 51, 52, 53, 54, 55, 56, 57, 58, 59, 60, 61, 62] (by decide +kernel) (by decide +kernel)
set_option maxRecDepth 20000 in
theorem gX3_person_X1_leastReached : GoodIn wsX3_person (wsV RX3 145 RX1 yX1_leastReached wsX1_leastReached) := goodIn_app (goodIn_of _ (by decide +kernel)) ggX3_person_X1_leastReached
set_option maxRecDepth 20000 in
theorem ggX3_person_X1_greatestReached : GoodIn wsX3_person wsX1_greatestReached := goodIn_r _ [26, 13, 18, 27, 28, 21, 29, 46, 47, 48, 49, 50, 51, 52, 53, 54, 55, 56, 57, 58, 59, 60, 61, 62] (by decide +kernel) (by decide +kernel)
set_option maxRecDepth 20000 in
theorem gX3_person_X1_greatestReached : GoodIn wsX3_person (wsV RX3 148 RX1 yX1_greatestReached wsX1_greatestReached) := goodIn_app (goodIn_of _ (by decide +kernel)) ggX3_person_X1_greatestReached
set_option maxRecDepth 20000 in
theorem ggX3_person_X1_umbrellasOver : GoodIn wsX3_person wsX1_umbrellasOver := goodIn_r _ [33, 13, 18, 34, 15, 16, 11, 17, 19, 20, 21, 22, 35, 24, 25, 26, 27, 28, 29, 36, 37, 38, 46, 47, 48, 49, 50, 51, 52, 53, 54, 55, 56, 57, 58, 59, 60, 61, 62] (by decide +kernel) (by decide +kernel)
set_option maxRecDepth 20000 in
theorem gX3_person_X1_umbrellasOver : GoodIn wsX3_person (wsV RX3 151 RX1 yX1_umbrellasOver wsX1_umbrellasOver) := goodIn_app (goodIn_of _ (by decide +kernel)) ggX3_person_X1_umbrellasOver
theorem dX3_person_0 : decode cX3_person 0 = .ok (.aload_n 0, 1) := by decide +kernel
theorem dX3_person_1 : decode cX3_person 1 = .ok (.getfield 10, 3) := by decide +kernel
theorem dX3_person_4 : decode cX3_person 4 = .ok (.iload_n 1, 1) := by decide +kernel
theorem dX3_person_5 : decode cX3_person 5 = .ok (.invokevirtual 127, 3) := by decide +kernel
theorem dX3_person_8 : decode cX3_person 8 = .ok (.ifCond .ne 5, 3) := by decide +kernel
theorem dX3_person_11 : decode cX3_person 11 = .ok (.iconst (-1), 1) := by decide +kernel
theorem dX3_person_12 : decode cX3_person 12 = .ok (.ireturn, 1) := by decide +kernel
theorem dX3_person_13 : decode cX3_person 13 = .ok (.iload_n 2, 1) := by decide +kernel
theorem dX3_person_14 : decode cX3_person 14 = .ok (.tableswitch 171 0 8 #[50, 60, 70, 80, 90, 100, 126, 152, 161], 50) := by decide +kernel
theorem dX3_person_64 : decode cX3_person 64 = .ok (.aload_n 0, 1) := by decide +kernel
theorem dX3_person_65 : decode cX3_person 65 = .ok (.getfield 10, 3) := by decide +kernel
theorem dX3_person_68 : decode cX3_person 68 = .ok (.getfield 130, 3) := by decide +kernel
theorem dX3_person_71 : decode cX3_person 71 = .ok (.iload_n 1, 1) := by decide +kernel
theorem dX3_person_72 : decode cX3_person 72 = .ok (.iaload, 1) := by decide +kernel
theorem dX3_person_73 : decode cX3_person 73 = .ok (.ireturn, 1) := by decide +kernel
theorem dX3_person_74 : decode cX3_person 74 = .ok (.aload_n 0, 1) := by decide +kernel
theorem dX3_person_75 : decode cX3_person 75 = .ok (.getfield 10, 3) := by decide +kernel
theorem dX3_person_78 : decode cX3_person 78 = .ok (.getfield 133, 3) := by decide +kernel
theorem dX3_person_81 : decode cX3_person 81 = .ok (.iload_n 1, 1) := by decide +kernel
theorem dX3_person_82 : decode cX3_person 82 = .ok (.iaload, 1) := by decide +kernel
theorem dX3_person_83 : decode cX3_person 83 = .ok (.ireturn, 1) := by decide +kernel
theorem dX3_person_84 : decode cX3_person 84 = .ok (.aload_n 0, 1) := by decide +kernel
theorem dX3_person_85 : decode cX3_person 85 = .ok (.getfield 10, 3) := by decide +kernel
theorem dX3_person_88 : decode cX3_person 88 = .ok (.getfield 136, 3) := by decide +kernel
theorem dX3_person_91 : decode cX3_person 91 = .ok (.iload_n 1, 1) := by decide +kernel
theorem dX3_person_92 : decode cX3_person 92 = .ok (.iaload, 1) := by decide +kernel
theorem dX3_person_93 : decode cX3_person 93 = .ok (.ireturn, 1) := by decide +kernel
theorem dX3_person_94 : decode cX3_person 94 = .ok (.aload_n 0, 1) := by decide +kernel
theorem dX3_person_95 : decode cX3_person 95 = .ok (.getfield 10, 3) := by decide +kernel
theorem dX3_person_98 : decode cX3_person 98 = .ok (.getfield 139, 3) := by decide +kernel
theorem dX3_person_101 : decode cX3_person 101 = .ok (.iload_n 1, 1) := by decide +kernel
theorem dX3_person_102 : decode cX3_person 102 = .ok (.iaload, 1) := by decide +kernel
theorem dX3_person_103 : decode cX3_person 103 = .ok (.ireturn, 1) := by decide +kernel
theorem dX3_person_104 : decode cX3_person 104 = .ok (.aload_n 0, 1) := by decide +kernel
theorem dX3_person_105 : decode cX3_person 105 = .ok (.getfield 10, 3) := by decide +kernel
theorem dX3_person_108 : decode cX3_person 108 = .ok (.getfield 142, 3) := by decide +kernel
theorem dX3_person_111 : decode cX3_person 111 = .ok (.iload_n 1, 1) := by decide +kernel
theorem dX3_person_112 : decode cX3_person 112 = .ok (.iaload, 1) := by decide +kernel
theorem dX3_person_113 : decode cX3_person 113 = .ok (.ireturn, 1) := by decide +kernel
theorem dX3_person_114 : decode cX3_person 114 = .ok (.aload_n 0, 1) := by decide +kernel
theorem dX3_person_115 : decode cX3_person 115 = .ok (.getfield 10, 3) := by decide +kernel
theorem dX3_person_118 : decode cX3_person 118 = .ok (.getfield 142, 3) := by decide +kernel
theorem dX3_person_121 : decode cX3_person 121 = .ok (.iload_n 1, 1) := by decide +kernel
theorem dX3_person_122 : decode cX3_person 122 = .ok (.iaload, 1) := by decide +kernel
theorem dX3_person_123 : decode cX3_person 123 = .ok (.ifCond .ne 8, 3) := by decide +kernel
theorem dX3_person_126 : decode cX3_person 126 = .ok (.bipush (-5), 2) := by decide +kernel
theorem dX3_person_128 : decode cX3_person 128 = .ok (.goto 11, 3) := by decide +kernel
theorem dX3_person_131 : decode cX3_person 131 = .ok (.aload_n 0, 1) := by decide +kernel
theorem dX3_person_132 : decode cX3_person 132 = .ok (.getfield 10, 3) := by decide +kernel
theorem dX3_person_135 : decode cX3_person 135 = .ok (.iload_n 1, 1) := by decide +kernel
theorem dX3_person_136 : decode cX3_person 136 = .ok (.invokevirtual 145, 3) := by decide +kernel
theorem dX3_person_139 : decode cX3_person 139 = .ok (.ireturn, 1) := by decide +kernel
theorem dX3_person_140 : decode cX3_person 140 = .ok (.aload_n 0, 1) := by decide +kernel
theorem dX3_person_141 : decode cX3_person 141 = .ok (.getfield 10, 3) := by decide +kernel
theorem dX3_person_144 : decode cX3_person 144 = .ok (.getfield 142, 3) := by decide +kernel
theorem dX3_person_147 : decode cX3_person 147 = .ok (.iload_n 1, 1) := by decide +kernel
theorem dX3_person_148 : decode cX3_person 148 = .ok (.iaload, 1) := by decide +kernel
theorem dX3_person_149 : decode cX3_person 149 = .ok (.ifCond .ne 8, 3) := by decide +kernel
theorem dX3_person_152 : decode cX3_person 152 = .ok (.bipush (-5), 2) := by decide +kernel
theorem dX3_person_154 : decode cX3_person 154 = .ok (.goto 11, 3) := by decide +kernel
theorem dX3_person_157 : decode cX3_person 157 = .ok (.aload_n 0, 1) := by decide +kernel
theorem dX3_person_158 : decode cX3_person 158 = .ok (.getfield 10, 3) := by decide +kernel
theorem dX3_person_161 : decode cX3_person 161 = .ok (.iload_n 1, 1) := by decide +kernel
theorem dX3_person_162 : decode cX3_person 162 = .ok (.invokevirtual 148, 3) := by decide +kernel
theorem dX3_person_165 : decode cX3_person 165 = .ok (.ireturn, 1) := by decide +kernel
theorem dX3_person_166 : decode cX3_person 166 = .ok (.aload_n 0, 1) := by decide +kernel
theorem dX3_person_167 : decode cX3_person 167 = .ok (.getfield 10, 3) := by decide +kernel
theorem dX3_person_170 : decode cX3_person 170 = .ok (.iload_n 1, 1) := by decide +kernel
theorem dX3_person_171 : decode cX3_person 171 = .ok (.invokevirtual 151, 3) := by decide +kernel
theorem dX3_person_174 : decode cX3_person 174 = .ok (.ireturn, 1) := by decide +kernel
theorem dX3_person_175 : decode cX3_person 175 = .ok (.aload_n 0, 1) := by decide +kernel
theorem dX3_person_176 : decode cX3_person 176 = .ok (.getfield 10, 3) := by decide +kernel
theorem dX3_person_179 : decode cX3_person 179 = .ok (.getfield 154, 3) := by decide +kernel
theorem dX3_person_182 : decode cX3_person 182 = .ok (.iload_n 1, 1) := by decide +kernel
theorem dX3_person_183 : decode cX3_person 183 = .ok (.iaload, 1) := by decide +kernel
theorem dX3_person_184 : decode cX3_person 184 = .ok (.ireturn, 1) := by decide +kernel
theorem dX3_person_185 : decode cX3_person 185 = .ok (.bipush (-2), 2) := by decide +kernel
theorem dX3_person_187 : decode cX3_person 187 = .ok (.ireturn, 1) := by decide +kernel
set_option maxRecDepth 20000 in
theorem ggX3_placeOf_X3_isWithin : GoodIn wsX3_placeOf wsX3_isWithin := goodIn_r _ [7] (by decide +kernel) (by decide +kernel)
set_option maxRecDepth 20000 in
theorem gX3_placeOf_X3_isWithin : GoodIn wsX3_placeOf (va_wsS RX3 157 yX3_isWithin wsX3_isWithin) := goodIn_app (goodIn_of _ (by decide +kernel)) ggX3_placeOf_X3_isWithin
theorem dX3_placeOf_0 : decode cX3_placeOf 0 = .ok (.iload_n 1, 1) := by decide +kernel
theorem dX3_placeOf_1 : decode cX3_placeOf 1 = .ok (.iconst 0, 1) := by decide +kernel
theorem dX3_placeOf_2 : decode cX3_placeOf 2 = .ok (.sipush 199, 3) := by decide +kernel
theorem dX3_placeOf_5 : decode cX3_placeOf 5 = .ok (.invokestatic 157, 3) := by decide +kernel
theorem dX3_placeOf_8 : decode cX3_placeOf 8 = .ok (.ifCond .ne 6, 3) := by decide +kernel
theorem dX3_placeOf_11 : decode cX3_placeOf 11 = .ok (.bipush (-2), 2) := by decide +kernel
theorem dX3_placeOf_13 : decode cX3_placeOf 13 = .ok (.ireturn, 1) := by decide +kernel
theorem dX3_placeOf_14 : decode cX3_placeOf 14 = .ok (.iconst 0, 1) := by decide +kernel
theorem dX3_placeOf_15 : decode cX3_placeOf 15 = .ok (.istore_n 2, 1) := by decide +kernel
theorem dX3_placeOf_16 : decode cX3_placeOf 16 = .ok (.iload_n 2, 1) := by decide +kernel
theorem dX3_placeOf_17 : decode cX3_placeOf 17 = .ok (.aload_n 0, 1) := by decide +kernel
theorem dX3_placeOf_18 : decode cX3_placeOf 18 = .ok (.getfield 10, 3) := by decide +kernel
theorem dX3_placeOf_21 : decode cX3_placeOf 21 = .ok (.getfield 124, 3) := by decide +kernel
theorem dX3_placeOf_24 : decode cX3_placeOf 24 = .ok (.if_icmp .ge 24, 3) := by decide +kernel
theorem dX3_placeOf_27 : decode cX3_placeOf 27 = .ok (.aload_n 0, 1) := by decide +kernel
theorem dX3_placeOf_28 : decode cX3_placeOf 28 = .ok (.getfield 10, 3) := by decide +kernel
theorem dX3_placeOf_31 : decode cX3_placeOf 31 = .ok (.getfield 130, 3) := by decide +kernel
theorem dX3_placeOf_34 : decode cX3_placeOf 34 = .ok (.iload_n 2, 1) := by decide +kernel
theorem dX3_placeOf_35 : decode cX3_placeOf 35 = .ok (.iaload, 1) := by decide +kernel
theorem dX3_placeOf_36 : decode cX3_placeOf 36 = .ok (.iload_n 1, 1) := by decide +kernel
theorem dX3_placeOf_37 : decode cX3_placeOf 37 = .ok (.if_icmp .ne 5, 3) := by decide +kernel
theorem dX3_placeOf_40 : decode cX3_placeOf 40 = .ok (.iload_n 2, 1) := by decide +kernel
theorem dX3_placeOf_41 : decode cX3_placeOf 41 = .ok (.ireturn, 1) := by decide +kernel
theorem dX3_placeOf_42 : decode cX3_placeOf 42 = .ok (.iinc 2 1, 3) := by decide +kernel
theorem dX3_placeOf_45 : decode cX3_placeOf 45 = .ok (.goto (-29), 3) := by decide +kernel
theorem dX3_placeOf_48 : decode cX3_placeOf 48 = .ok (.bipush (-5), 2) := by decide +kernel
theorem dX3_placeOf_50 : decode cX3_placeOf 50 = .ok (.ireturn, 1) := by decide +kernel
set_option maxRecDepth 20000 in
theorem ggX3_ifGust_X1_isPlace : GoodIn wsX3_ifGust wsX1_isPlace := goodIn_r _ [7, 8, 58, 59, 60, 61, 62, 63, 64, 65, 66, 67, 68, 69, 70, 71, 72, 73, 74] (by decide +kernel) (by decide +kernel)
set_option maxRecDepth 20000 in
theorem gX3_ifGust_X1_isPlace : GoodIn wsX3_ifGust (wsV RX3 127 RX1 yX1_isPlace wsX1_isPlace) := goodIn_app (goodIn_of _ (by decide +kernel)) ggX3_ifGust_X1_isPlace
set_option maxRecDepth 20000 in
theorem ggX3_ifGust_X3_isGust : GoodIn wsX3_ifGust wsX3_isGust := goodIn_r _ [12, 13, 14, 11, 15] (by decide +kernel) (by decide +kernel)
set_option maxRecDepth 20000 in
theorem gX3_ifGust_X3_isGust : GoodIn wsX3_ifGust (va_wsS RX3 161 yX3_isGust wsX3_isGust) := goodIn_app (goodIn_of _ (by decide +kernel)) ggX3_ifGust_X3_isGust
set_option maxRecDepth 20000 in
theorem ggX3_ifGust_X1_isCovered : GoodIn wsX3_ifGust wsX1_isCovered := goodIn_r _ [19, 8, 20, 21, 22, 23, 6, 24, 25, 26, 27, 28, 29, 30, 31, 32, 33, 34, 35, 58, 59, 60, 61, 62, 63, 64, 65, 66, 67, 68, 69, 70, 71, 72, 73, 74] (by decide +kernel) (by decide +kernel)
set_option maxRecDepth 20000 in
theorem gX3_ifGust_X1_isCovered : GoodIn wsX3_ifGust (wsV RX3 165 RX1 yX1_isCovered wsX1_isCovered) := goodIn_app (goodIn_of _ (by decide +kernel)) ggX3_ifGust_X1_isCovered
set_option maxRecDepth 20000 in
theorem ggX3_ifGust_X1_umbrellasRunningOnto : GoodIn wsX3_ifGust wsX1_umbrellasRunningOnto := goodIn_r _ [39, 8, 20, 21, 22, 23, 6, 24, 25, 26, 27, 28, 29, 30, 31, 32, 33, 34, 35, 58, 59, 60, 61, 62, 63, 64, 65, 66, 67, 68, 69, 70, 71, 72, 73, 74] (by decide +kernel) (by decide +kernel)
set_option maxRecDepth 20000 in
theorem gX3_ifGust_X1_umbrellasRunningOnto : GoodIn wsX3_ifGust (wsV RX3 168 RX1 yX1_umbrellasRunningOnto wsX1_umbrellasRunningOnto) := goodIn_app (goodIn_of _ (by decide +kernel)) ggX3_ifGust_X1_umbrellasRunningOnto
set_option maxRecDepth 20000 in
theorem ggX3_ifGust_X1_wetnessAfter : GoodIn wsX3_ifGust wsX1_wetnessAfter := goodIn_r _ [43, 44, 33, 34, 27, 35, 45, 46, 47, 6, 48, 49, 37, 38, 39, 8, 20, 21, 22, 23, 24, 25, 26, 28, 29, 30, 31, 32, 50, 17, 18, 19, 58, 59, 60, 61, 62, 63, 64, 65, 66, 67, 68, 69, 70, 71, 72, 73, 74] (by decide +kernel) (by decide +kernel)
set_option maxRecDepth 20000 in
theorem gX3_ifGust_X1_wetnessAfter : GoodIn wsX3_ifGust (wsV RX3 171 RX1 yX1_wetnessAfter wsX1_wetnessAfter) := goodIn_app (goodIn_of _ (by decide +kernel)) ggX3_ifGust_X1_wetnessAfter
theorem dX3_ifGust_0 : decode cX3_ifGust 0 = .ok (.aload_n 0, 1) := by decide +kernel
theorem dX3_ifGust_1 : decode cX3_ifGust 1 = .ok (.getfield 10, 3) := by decide +kernel
theorem dX3_ifGust_4 : decode cX3_ifGust 4 = .ok (.iload_n 1, 1) := by decide +kernel
theorem dX3_ifGust_5 : decode cX3_ifGust 5 = .ok (.invokevirtual 127, 3) := by decide +kernel
theorem dX3_ifGust_8 : decode cX3_ifGust 8 = .ok (.ifCond .ne 5, 3) := by decide +kernel
theorem dX3_ifGust_11 : decode cX3_ifGust 11 = .ok (.iconst (-1), 1) := by decide +kernel
theorem dX3_ifGust_12 : decode cX3_ifGust 12 = .ok (.ireturn, 1) := by decide +kernel
theorem dX3_ifGust_13 : decode cX3_ifGust 13 = .ok (.iload_n 2, 1) := by decide +kernel
theorem dX3_ifGust_14 : decode cX3_ifGust 14 = .ok (.iload_n 3, 1) := by decide +kernel
theorem dX3_ifGust_15 : decode cX3_ifGust 15 = .ok (.invokestatic 161, 3) := by decide +kernel
theorem dX3_ifGust_18 : decode cX3_ifGust 18 = .ok (.ifCond .ne 6, 3) := by decide +kernel
theorem dX3_ifGust_21 : decode cX3_ifGust 21 = .ok (.bipush (-2), 2) := by decide +kernel
theorem dX3_ifGust_23 : decode cX3_ifGust 23 = .ok (.ireturn, 1) := by decide +kernel
theorem dX3_ifGust_24 : decode cX3_ifGust 24 = .ok (.iload 4, 2) := by decide +kernel
theorem dX3_ifGust_26 : decode cX3_ifGust 26 = .ok (.tableswitch 96 0 3 #[30, 48, 57, 68], 30) := by decide +kernel
theorem dX3_ifGust_56 : decode cX3_ifGust 56 = .ok (.aload_n 0, 1) := by decide +kernel
theorem dX3_ifGust_57 : decode cX3_ifGust 57 = .ok (.getfield 10, 3) := by decide +kernel
theorem dX3_ifGust_60 : decode cX3_ifGust 60 = .ok (.iload_n 1, 1) := by decide +kernel
theorem dX3_ifGust_61 : decode cX3_ifGust 61 = .ok (.iload_n 3, 1) := by decide +kernel
theorem dX3_ifGust_62 : decode cX3_ifGust 62 = .ok (.invokevirtual 165, 3) := by decide +kernel
theorem dX3_ifGust_65 : decode cX3_ifGust 65 = .ok (.ifCond .eq 7, 3) := by decide +kernel
theorem dX3_ifGust_68 : decode cX3_ifGust 68 = .ok (.iconst 1, 1) := by decide +kernel
theorem dX3_ifGust_69 : decode cX3_ifGust 69 = .ok (.goto 4, 3) := by decide +kernel
theorem dX3_ifGust_72 : decode cX3_ifGust 72 = .ok (.iconst 0, 1) := by decide +kernel
theorem dX3_ifGust_73 : decode cX3_ifGust 73 = .ok (.ireturn, 1) := by decide +kernel
theorem dX3_ifGust_74 : decode cX3_ifGust 74 = .ok (.aload_n 0, 1) := by decide +kernel
theorem dX3_ifGust_75 : decode cX3_ifGust 75 = .ok (.getfield 10, 3) := by decide +kernel
theorem dX3_ifGust_78 : decode cX3_ifGust 78 = .ok (.iload_n 1, 1) := by decide +kernel
theorem dX3_ifGust_79 : decode cX3_ifGust 79 = .ok (.invokevirtual 168, 3) := by decide +kernel
theorem dX3_ifGust_82 : decode cX3_ifGust 82 = .ok (.ireturn, 1) := by decide +kernel
theorem dX3_ifGust_83 : decode cX3_ifGust 83 = .ok (.aload_n 0, 1) := by decide +kernel
theorem dX3_ifGust_84 : decode cX3_ifGust 84 = .ok (.getfield 10, 3) := by decide +kernel
theorem dX3_ifGust_87 : decode cX3_ifGust 87 = .ok (.iload_n 1, 1) := by decide +kernel
theorem dX3_ifGust_88 : decode cX3_ifGust 88 = .ok (.iload_n 2, 1) := by decide +kernel
theorem dX3_ifGust_89 : decode cX3_ifGust 89 = .ok (.iload_n 3, 1) := by decide +kernel
theorem dX3_ifGust_90 : decode cX3_ifGust 90 = .ok (.invokevirtual 171, 3) := by decide +kernel
theorem dX3_ifGust_93 : decode cX3_ifGust 93 = .ok (.ireturn, 1) := by decide +kernel
theorem dX3_ifGust_94 : decode cX3_ifGust 94 = .ok (.aload_n 0, 1) := by decide +kernel
theorem dX3_ifGust_95 : decode cX3_ifGust 95 = .ok (.getfield 10, 3) := by decide +kernel
theorem dX3_ifGust_98 : decode cX3_ifGust 98 = .ok (.iload_n 1, 1) := by decide +kernel
theorem dX3_ifGust_99 : decode cX3_ifGust 99 = .ok (.iload_n 2, 1) := by decide +kernel
theorem dX3_ifGust_100 : decode cX3_ifGust 100 = .ok (.iload_n 3, 1) := by decide +kernel
theorem dX3_ifGust_101 : decode cX3_ifGust 101 = .ok (.invokevirtual 171, 3) := by decide +kernel
theorem dX3_ifGust_104 : decode cX3_ifGust 104 = .ok (.aload_n 0, 1) := by decide +kernel
theorem dX3_ifGust_105 : decode cX3_ifGust 105 = .ok (.getfield 10, 3) := by decide +kernel
theorem dX3_ifGust_108 : decode cX3_ifGust 108 = .ok (.getfield 136, 3) := by decide +kernel
theorem dX3_ifGust_111 : decode cX3_ifGust 111 = .ok (.iload_n 1, 1) := by decide +kernel
theorem dX3_ifGust_112 : decode cX3_ifGust 112 = .ok (.iaload, 1) := by decide +kernel
theorem dX3_ifGust_113 : decode cX3_ifGust 113 = .ok (.if_icmp .le 7, 3) := by decide +kernel
theorem dX3_ifGust_116 : decode cX3_ifGust 116 = .ok (.iconst 1, 1) := by decide +kernel
theorem dX3_ifGust_117 : decode cX3_ifGust 117 = .ok (.goto 4, 3) := by decide +kernel
theorem dX3_ifGust_120 : decode cX3_ifGust 120 = .ok (.iconst 0, 1) := by decide +kernel
theorem dX3_ifGust_121 : decode cX3_ifGust 121 = .ok (.ireturn, 1) := by decide +kernel
theorem dX3_ifGust_122 : decode cX3_ifGust 122 = .ok (.bipush (-2), 2) := by decide +kernel
theorem dX3_ifGust_124 : decode cX3_ifGust 124 = .ok (.ireturn, 1) := by decide +kernel
set_option maxRecDepth 20000 in
theorem ggX3_reason_X1_hasNeighbour : GoodIn wsX3_reason wsX1_hasNeighbour := goodIn_r _ [6, 7, 21, 22, 23, 24, 25, 26, 27, 28, 29, 30, 31, 32, 33, 34, 35, 36, 37] (by decide +kernel) (by decide +kernel)
set_option maxRecDepth 20000 in
theorem gX3_reason_X1_hasNeighbour : GoodIn wsX3_reason (wsV RX3 174 RX1 yX1_hasNeighbour wsX1_hasNeighbour) := goodIn_app (goodIn_of _ (by decide +kernel)) ggX3_reason_X1_hasNeighbour
set_option maxRecDepth 20000 in
theorem ggX3_reason_X1_refusal : GoodIn wsX3_reason wsX1_refusal := goodIn_r _ [11, 12, 13, 21, 22, 23, 24, 25, 26, 27, 28, 29, 30, 31, 32, 33, 34, 35, 36, 37] (by decide +kernel) (by decide +kernel)
set_option maxRecDepth 20000 in
theorem gX3_reason_X1_refusal : GoodIn wsX3_reason (wsV RX3 177 RX1 yX1_refusal wsX1_refusal) := goodIn_app (goodIn_of _ (by decide +kernel)) ggX3_reason_X1_refusal
theorem dX3_reason_0 : decode cX3_reason 0 = .ok (.aload_n 0, 1) := by decide +kernel
theorem dX3_reason_1 : decode cX3_reason 1 = .ok (.getfield 10, 3) := by decide +kernel
theorem dX3_reason_4 : decode cX3_reason 4 = .ok (.iload_n 1, 1) := by decide +kernel
theorem dX3_reason_5 : decode cX3_reason 5 = .ok (.invokevirtual 174, 3) := by decide +kernel
theorem dX3_reason_8 : decode cX3_reason 8 = .ok (.ifCond .eq 14, 3) := by decide +kernel
theorem dX3_reason_11 : decode cX3_reason 11 = .ok (.aload_n 0, 1) := by decide +kernel
theorem dX3_reason_12 : decode cX3_reason 12 = .ok (.getfield 10, 3) := by decide +kernel
theorem dX3_reason_15 : decode cX3_reason 15 = .ok (.iload_n 1, 1) := by decide +kernel
theorem dX3_reason_16 : decode cX3_reason 16 = .ok (.invokevirtual 177, 3) := by decide +kernel
theorem dX3_reason_19 : decode cX3_reason 19 = .ok (.goto 4, 3) := by decide +kernel
theorem dX3_reason_22 : decode cX3_reason 22 = .ok (.iconst (-1), 1) := by decide +kernel
theorem dX3_reason_23 : decode cX3_reason 23 = .ok (.ireturn, 1) := by decide +kernel
set_option maxRecDepth 20000 in
theorem ggX3_bestSwap_X3_isGust : GoodIn wsX3_bestSwap wsX3_isGust := goodIn_r _ [5, 6, 7, 4, 8] (by decide +kernel) (by decide +kernel)
set_option maxRecDepth 20000 in
theorem gX3_bestSwap_X3_isGust : GoodIn wsX3_bestSwap (va_wsS RX3 161 yX3_isGust wsX3_isGust) := goodIn_app (goodIn_of _ (by decide +kernel)) ggX3_bestSwap_X3_isGust
set_option maxRecDepth 20000 in
theorem ggX3_bestSwap_X1_driestSwap : GoodIn wsX3_bestSwap wsX1_driestSwap := goodIn_r _ [13, 14, 15, 16, 17, 18, 12, 19, 20, 21, 22, 23, 24, 25, 26, 27, 28, 29, 30, 31, 32, 33, 34, 35, 36, 37, 38, 39, 40, 41, 42, 43, 44, 45, 46, 47, 48, 49, 50, 51, 52, 53, 54, 55, 56, 57, 58, 66, 67, 68, 69, 70, 71, 72, 73, 74, 75, 76, 77, 78, 79, 80, 81, 82] (by decide +kernel) (by decide +kernel)
set_option maxRecDepth 20000 in
theorem gX3_bestSwap_X1_driestSwap : GoodIn wsX3_bestSwap (wsV RX3 180 RX1 yX1_driestSwap wsX1_driestSwap) := goodIn_app (goodIn_of _ (by decide +kernel)) ggX3_bestSwap_X1_driestSwap
theorem dX3_bestSwap_0 : decode cX3_bestSwap 0 = .ok (.iload_n 1, 1) := by decide +kernel
theorem dX3_bestSwap_1 : decode cX3_bestSwap 1 = .ok (.iload_n 2, 1) := by decide +kernel
theorem dX3_bestSwap_2 : decode cX3_bestSwap 2 = .ok (.invokestatic 161, 3) := by decide +kernel
theorem dX3_bestSwap_5 : decode cX3_bestSwap 5 = .ok (.ifCond .eq 15, 3) := by decide +kernel
theorem dX3_bestSwap_8 : decode cX3_bestSwap 8 = .ok (.aload_n 0, 1) := by decide +kernel
theorem dX3_bestSwap_9 : decode cX3_bestSwap 9 = .ok (.getfield 10, 3) := by decide +kernel
theorem dX3_bestSwap_12 : decode cX3_bestSwap 12 = .ok (.iload_n 1, 1) := by decide +kernel
theorem dX3_bestSwap_13 : decode cX3_bestSwap 13 = .ok (.iload_n 2, 1) := by decide +kernel
theorem dX3_bestSwap_14 : decode cX3_bestSwap 14 = .ok (.invokevirtual 180, 3) := by decide +kernel
theorem dX3_bestSwap_17 : decode cX3_bestSwap 17 = .ok (.goto 5, 3) := by decide +kernel
theorem dX3_bestSwap_20 : decode cX3_bestSwap 20 = .ok (.bipush (-2), 2) := by decide +kernel
theorem dX3_bestSwap_22 : decode cX3_bestSwap 22 = .ok (.ireturn, 1) := by decide +kernel
set_option maxRecDepth 20000 in
theorem ggX3_payer_X3_isWithin : GoodIn wsX3_payer wsX3_isWithin := goodIn_r _ [6] (by decide +kernel) (by decide +kernel)
set_option maxRecDepth 20000 in
theorem gX3_payer_X3_isWithin : GoodIn wsX3_payer (va_wsS RX3 157 yX3_isWithin wsX3_isWithin) := goodIn_app (goodIn_of _ (by decide +kernel)) ggX3_payer_X3_isWithin
set_option maxRecDepth 20000 in
theorem ggX3_payer_X1_driestToServe : GoodIn wsX3_payer wsX1_driestToServe := goodIn_r _ [11, 12, 13, 14, 15, 10, 16, 17, 18, 19, 20, 21, 22, 39, 40, 41, 42, 43, 44, 45, 46, 47, 48, 49, 50, 51, 52, 53, 54, 55] (by decide +kernel) (by decide +kernel)
set_option maxRecDepth 20000 in
theorem gX3_payer_X1_driestToServe : GoodIn wsX3_payer (wsV RX3 183 RX1 yX1_driestToServe wsX1_driestToServe) := goodIn_app (goodIn_of _ (by decide +kernel)) ggX3_payer_X1_driestToServe
set_option maxRecDepth 20000 in
theorem ggX3_payer_X1_paidFrom : GoodIn wsX3_payer wsX1_paidFrom := goodIn_r _ [26, 27, 19, 20, 21, 22, 28, 29, 30, 10, 31, 18, 13, 14, 15, 16, 17, 39, 40, 41, 42, 43, 44, 45, 46, 47, 48, 49, 50, 51, 52, 53, 54, 55] (by decide +kernel) (by decide +kernel)
set_option maxRecDepth 20000 in
theorem gX3_payer_X1_paidFrom : GoodIn wsX3_payer (wsV RX3 186 RX1 yX1_paidFrom wsX1_paidFrom) := goodIn_app (goodIn_of _ (by decide +kernel)) ggX3_payer_X1_paidFrom
theorem dX3_payer_0 : decode cX3_payer 0 = .ok (.iload_n 1, 1) := by decide +kernel
theorem dX3_payer_1 : decode cX3_payer 1 = .ok (.iconst 0, 1) := by decide +kernel
theorem dX3_payer_2 : decode cX3_payer 2 = .ok (.iconst 1, 1) := by decide +kernel
theorem dX3_payer_3 : decode cX3_payer 3 = .ok (.invokestatic 157, 3) := by decide +kernel
theorem dX3_payer_6 : decode cX3_payer 6 = .ok (.ifCond .ne 6, 3) := by decide +kernel
theorem dX3_payer_9 : decode cX3_payer 9 = .ok (.bipush (-2), 2) := by decide +kernel
theorem dX3_payer_11 : decode cX3_payer 11 = .ok (.ireturn, 1) := by decide +kernel
theorem dX3_payer_12 : decode cX3_payer 12 = .ok (.aload_n 0, 1) := by decide +kernel
theorem dX3_payer_13 : decode cX3_payer 13 = .ok (.getfield 10, 3) := by decide +kernel
theorem dX3_payer_16 : decode cX3_payer 16 = .ok (.getfield 124, 3) := by decide +kernel
theorem dX3_payer_19 : decode cX3_payer 19 = .ok (.ifCond .ne 6, 3) := by decide +kernel
theorem dX3_payer_22 : decode cX3_payer 22 = .ok (.bipush (-5), 2) := by decide +kernel
theorem dX3_payer_24 : decode cX3_payer 24 = .ok (.ireturn, 1) := by decide +kernel
theorem dX3_payer_25 : decode cX3_payer 25 = .ok (.aload_n 0, 1) := by decide +kernel
theorem dX3_payer_26 : decode cX3_payer 26 = .ok (.getfield 10, 3) := by decide +kernel
theorem dX3_payer_29 : decode cX3_payer 29 = .ok (.invokevirtual 183, 3) := by decide +kernel
theorem dX3_payer_32 : decode cX3_payer 32 = .ok (.istore_n 2, 1) := by decide +kernel
theorem dX3_payer_33 : decode cX3_payer 33 = .ok (.iload_n 1, 1) := by decide +kernel
theorem dX3_payer_34 : decode cX3_payer 34 = .ok (.ifCond .ne 7, 3) := by decide +kernel
theorem dX3_payer_37 : decode cX3_payer 37 = .ok (.iload_n 2, 1) := by decide +kernel
theorem dX3_payer_38 : decode cX3_payer 38 = .ok (.goto 11, 3) := by decide +kernel
theorem dX3_payer_41 : decode cX3_payer 41 = .ok (.aload_n 0, 1) := by decide +kernel
theorem dX3_payer_42 : decode cX3_payer 42 = .ok (.getfield 10, 3) := by decide +kernel
theorem dX3_payer_45 : decode cX3_payer 45 = .ok (.iload_n 2, 1) := by decide +kernel
theorem dX3_payer_46 : decode cX3_payer 46 = .ok (.invokevirtual 186, 3) := by decide +kernel
theorem dX3_payer_49 : decode cX3_payer 49 = .ok (.ireturn, 1) := by decide +kernel
set_option maxRecDepth 20000 in
theorem ggX3_bears_X1_isPlace : GoodIn wsX3_bears wsX1_isPlace := goodIn_r _ [6, 7, 53, 54, 55, 56, 57, 58, 59, 60, 61, 62, 63, 64, 65, 66, 67, 68, 69] (by decide +kernel) (by decide +kernel)
set_option maxRecDepth 20000 in
theorem gX3_bears_X1_isPlace : GoodIn wsX3_bears (wsV RX3 127 RX1 yX1_isPlace wsX1_isPlace) := goodIn_app (goodIn_of _ (by decide +kernel)) ggX3_bears_X1_isPlace
set_option maxRecDepth 20000 in
theorem ggX3_bears_X3_isWithin : GoodIn wsX3_bears wsX3_isWithin := goodIn_r _ [11] (by decide +kernel) (by decide +kernel)
set_option maxRecDepth 20000 in
theorem gX3_bears_X3_isWithin : GoodIn wsX3_bears (va_wsS RX3 157 yX3_isWithin wsX3_isWithin) := goodIn_app (goodIn_of _ (by decide +kernel)) ggX3_bears_X3_isWithin
set_option maxRecDepth 20000 in
theorem ggX3_bears_X1_gustsBorne : GoodIn wsX3_bears wsX1_gustsBorne := goodIn_r _ [15, 16, 17, 18, 19, 20, 5, 21, 22, 23, 24, 25, 7, 26, 27, 28, 29, 30, 31, 32, 33, 34, 35, 36, 37, 38, 39, 40, 41, 42, 43, 44, 45, 53, 54, 55, 56, 57, 58, 59, 60, 61, 62, 63, 64, 65, 66, 67, 68, 69] (by decide +kernel) (by decide +kernel)
set_option maxRecDepth 20000 in
theorem gX3_bears_X1_gustsBorne : GoodIn wsX3_bears (wsV RX3 189 RX1 yX1_gustsBorne wsX1_gustsBorne) := goodIn_app (goodIn_of _ (by decide +kernel)) ggX3_bears_X1_gustsBorne
theorem dX3_bears_0 : decode cX3_bears 0 = .ok (.aload_n 0, 1) := by decide +kernel
theorem dX3_bears_1 : decode cX3_bears 1 = .ok (.getfield 10, 3) := by decide +kernel
theorem dX3_bears_4 : decode cX3_bears 4 = .ok (.iload_n 1, 1) := by decide +kernel
theorem dX3_bears_5 : decode cX3_bears 5 = .ok (.invokevirtual 127, 3) := by decide +kernel
theorem dX3_bears_8 : decode cX3_bears 8 = .ok (.ifCond .ne 5, 3) := by decide +kernel
theorem dX3_bears_11 : decode cX3_bears 11 = .ok (.iconst (-1), 1) := by decide +kernel
theorem dX3_bears_12 : decode cX3_bears 12 = .ok (.ireturn, 1) := by decide +kernel
theorem dX3_bears_13 : decode cX3_bears 13 = .ok (.iload_n 2, 1) := by decide +kernel
theorem dX3_bears_14 : decode cX3_bears 14 = .ok (.iconst 1, 1) := by decide +kernel
theorem dX3_bears_15 : decode cX3_bears 15 = .ok (.bipush 99, 2) := by decide +kernel
theorem dX3_bears_17 : decode cX3_bears 17 = .ok (.invokestatic 157, 3) := by decide +kernel
theorem dX3_bears_20 : decode cX3_bears 20 = .ok (.ifCond .ne 6, 3) := by decide +kernel
theorem dX3_bears_23 : decode cX3_bears 23 = .ok (.bipush (-2), 2) := by decide +kernel
theorem dX3_bears_25 : decode cX3_bears 25 = .ok (.ireturn, 1) := by decide +kernel
theorem dX3_bears_26 : decode cX3_bears 26 = .ok (.aload_n 0, 1) := by decide +kernel
theorem dX3_bears_27 : decode cX3_bears 27 = .ok (.getfield 10, 3) := by decide +kernel
theorem dX3_bears_30 : decode cX3_bears 30 = .ok (.iload_n 1, 1) := by decide +kernel
theorem dX3_bears_31 : decode cX3_bears 31 = .ok (.iload_n 2, 1) := by decide +kernel
theorem dX3_bears_32 : decode cX3_bears 32 = .ok (.invokevirtual 189, 3) := by decide +kernel
theorem dX3_bears_35 : decode cX3_bears 35 = .ok (.ireturn, 1) := by decide +kernel
set_option maxRecDepth 20000 in
theorem ggX3_count_X1_totalWetness : GoodIn wsX3_count wsX1_totalWetness := goodIn_r _ [21, 22, 23, 62, 63, 64, 65, 66, 67, 68, 69, 70, 71, 72, 73, 74, 75, 76, 77, 78] (by decide +kernel) (by decide +kernel)
set_option maxRecDepth 20000 in
theorem gX3_count_X1_totalWetness : GoodIn wsX3_count (wsV RX3 219 RX1 yX1_totalWetness wsX1_totalWetness) := goodIn_app (goodIn_of _ (by decide +kernel)) ggX3_count_X1_totalWetness
set_option maxRecDepth 20000 in
theorem ggX3_count_X1_wettest : GoodIn wsX3_count wsX1_wettest := goodIn_r _ [27, 22, 23, 62, 63, 64, 65, 66, 67, 68, 69, 70, 71, 72, 73, 74, 75, 76, 77, 78] (by decide +kernel) (by decide +kernel)
set_option maxRecDepth 20000 in
theorem gX3_count_X1_wettest : GoodIn wsX3_count (wsV RX3 222 RX1 yX1_wettest wsX1_wettest) := goodIn_app (goodIn_of _ (by decide +kernel)) ggX3_count_X1_wettest
set_option maxRecDepth 20000 in
theorem ggX3_count_X1_placesUnreached : GoodIn wsX3_count wsX1_placesUnreached := goodIn_r _ [31, 22, 32, 33, 34, 20, 35, 36, 37, 38, 39, 40, 41, 42, 43, 44, 45, 46, 47, 48, 49, 50, 51, 52, 53, 54, 62, 63, 64, 65, 66, 67, 68, 69, 70, 71, 72, 73, 74, 75, 76, 77, 78] (by decide +kernel) (by decide +kernel)
set_option maxRecDepth 20000 in
theorem gX3_count_X1_placesUnreached : GoodIn wsX3_count (wsV RX3 225 RX1 yX1_placesUnreached wsX1_placesUnreached) := goodIn_app (goodIn_of _ (by decide +kernel)) ggX3_count_X1_placesUnreached
theorem dX3_count_0 : decode cX3_count 0 = .ok (.iload_n 1, 1) := by decide +kernel
theorem dX3_count_1 : decode cX3_count 1 = .ok (.tableswitch 237 0 17 #[87, 95, 103, 111, 119, 127, 135, 143, 151, 159, 167, 175, 183, 191, 201, 211, 221, 229], 87) := by decide +kernel
theorem dX3_count_88 : decode cX3_count 88 = .ok (.aload_n 0, 1) := by decide +kernel
theorem dX3_count_89 : decode cX3_count 89 = .ok (.getfield 10, 3) := by decide +kernel
theorem dX3_count_92 : decode cX3_count 92 = .ok (.getfield 124, 3) := by decide +kernel
theorem dX3_count_95 : decode cX3_count 95 = .ok (.ireturn, 1) := by decide +kernel
theorem dX3_count_96 : decode cX3_count 96 = .ok (.aload_n 0, 1) := by decide +kernel
theorem dX3_count_97 : decode cX3_count 97 = .ok (.getfield 10, 3) := by decide +kernel
theorem dX3_count_100 : decode cX3_count 100 = .ok (.getfield 192, 3) := by decide +kernel
theorem dX3_count_103 : decode cX3_count 103 = .ok (.ireturn, 1) := by decide +kernel
theorem dX3_count_104 : decode cX3_count 104 = .ok (.aload_n 0, 1) := by decide +kernel
theorem dX3_count_105 : decode cX3_count 105 = .ok (.getfield 10, 3) := by decide +kernel
theorem dX3_count_108 : decode cX3_count 108 = .ok (.getfield 195, 3) := by decide +kernel
theorem dX3_count_111 : decode cX3_count 111 = .ok (.ireturn, 1) := by decide +kernel
theorem dX3_count_112 : decode cX3_count 112 = .ok (.aload_n 0, 1) := by decide +kernel
theorem dX3_count_113 : decode cX3_count 113 = .ok (.getfield 10, 3) := by decide +kernel
theorem dX3_count_116 : decode cX3_count 116 = .ok (.getfield 198, 3) := by decide +kernel
theorem dX3_count_119 : decode cX3_count 119 = .ok (.ireturn, 1) := by decide +kernel
theorem dX3_count_120 : decode cX3_count 120 = .ok (.aload_n 0, 1) := by decide +kernel
theorem dX3_count_121 : decode cX3_count 121 = .ok (.getfield 10, 3) := by decide +kernel
theorem dX3_count_124 : decode cX3_count 124 = .ok (.getfield 201, 3) := by decide +kernel
theorem dX3_count_127 : decode cX3_count 127 = .ok (.ireturn, 1) := by decide +kernel
theorem dX3_count_128 : decode cX3_count 128 = .ok (.aload_n 0, 1) := by decide +kernel
theorem dX3_count_129 : decode cX3_count 129 = .ok (.getfield 10, 3) := by decide +kernel
theorem dX3_count_132 : decode cX3_count 132 = .ok (.getfield 204, 3) := by decide +kernel
theorem dX3_count_135 : decode cX3_count 135 = .ok (.ireturn, 1) := by decide +kernel
theorem dX3_count_136 : decode cX3_count 136 = .ok (.aload_n 0, 1) := by decide +kernel
theorem dX3_count_137 : decode cX3_count 137 = .ok (.getfield 10, 3) := by decide +kernel
theorem dX3_count_140 : decode cX3_count 140 = .ok (.getfield 207, 3) := by decide +kernel
theorem dX3_count_143 : decode cX3_count 143 = .ok (.ireturn, 1) := by decide +kernel
theorem dX3_count_144 : decode cX3_count 144 = .ok (.aload_n 0, 1) := by decide +kernel
theorem dX3_count_145 : decode cX3_count 145 = .ok (.getfield 10, 3) := by decide +kernel
theorem dX3_count_148 : decode cX3_count 148 = .ok (.getfield 210, 3) := by decide +kernel
theorem dX3_count_151 : decode cX3_count 151 = .ok (.ireturn, 1) := by decide +kernel
theorem dX3_count_152 : decode cX3_count 152 = .ok (.aload_n 0, 1) := by decide +kernel
theorem dX3_count_153 : decode cX3_count 153 = .ok (.getfield 10, 3) := by decide +kernel
theorem dX3_count_156 : decode cX3_count 156 = .ok (.getfield 213, 3) := by decide +kernel
theorem dX3_count_159 : decode cX3_count 159 = .ok (.ireturn, 1) := by decide +kernel
theorem dX3_count_160 : decode cX3_count 160 = .ok (.aload_n 0, 1) := by decide +kernel
theorem dX3_count_161 : decode cX3_count 161 = .ok (.getfield 10, 3) := by decide +kernel
theorem dX3_count_164 : decode cX3_count 164 = .ok (.getfield 216, 3) := by decide +kernel
theorem dX3_count_167 : decode cX3_count 167 = .ok (.ireturn, 1) := by decide +kernel
theorem dX3_count_168 : decode cX3_count 168 = .ok (.aload_n 0, 1) := by decide +kernel
theorem dX3_count_169 : decode cX3_count 169 = .ok (.getfield 10, 3) := by decide +kernel
theorem dX3_count_172 : decode cX3_count 172 = .ok (.invokevirtual 219, 3) := by decide +kernel
theorem dX3_count_175 : decode cX3_count 175 = .ok (.ireturn, 1) := by decide +kernel
theorem dX3_count_176 : decode cX3_count 176 = .ok (.aload_n 0, 1) := by decide +kernel
theorem dX3_count_177 : decode cX3_count 177 = .ok (.getfield 10, 3) := by decide +kernel
theorem dX3_count_180 : decode cX3_count 180 = .ok (.invokevirtual 222, 3) := by decide +kernel
theorem dX3_count_183 : decode cX3_count 183 = .ok (.ireturn, 1) := by decide +kernel
theorem dX3_count_184 : decode cX3_count 184 = .ok (.aload_n 0, 1) := by decide +kernel
theorem dX3_count_185 : decode cX3_count 185 = .ok (.getfield 10, 3) := by decide +kernel
theorem dX3_count_188 : decode cX3_count 188 = .ok (.invokevirtual 225, 3) := by decide +kernel
theorem dX3_count_191 : decode cX3_count 191 = .ok (.ireturn, 1) := by decide +kernel
theorem dX3_count_192 : decode cX3_count 192 = .ok (.aload_n 0, 1) := by decide +kernel
theorem dX3_count_193 : decode cX3_count 193 = .ok (.getfield 10, 3) := by decide +kernel
theorem dX3_count_196 : decode cX3_count 196 = .ok (.getfield 228, 3) := by decide +kernel
theorem dX3_count_199 : decode cX3_count 199 = .ok (.iconst 0, 1) := by decide +kernel
theorem dX3_count_200 : decode cX3_count 200 = .ok (.iaload, 1) := by decide +kernel
theorem dX3_count_201 : decode cX3_count 201 = .ok (.ireturn, 1) := by decide +kernel
theorem dX3_count_202 : decode cX3_count 202 = .ok (.aload_n 0, 1) := by decide +kernel
theorem dX3_count_203 : decode cX3_count 203 = .ok (.getfield 10, 3) := by decide +kernel
theorem dX3_count_206 : decode cX3_count 206 = .ok (.getfield 228, 3) := by decide +kernel
theorem dX3_count_209 : decode cX3_count 209 = .ok (.iconst 1, 1) := by decide +kernel
theorem dX3_count_210 : decode cX3_count 210 = .ok (.iaload, 1) := by decide +kernel
theorem dX3_count_211 : decode cX3_count 211 = .ok (.ireturn, 1) := by decide +kernel
theorem dX3_count_212 : decode cX3_count 212 = .ok (.aload_n 0, 1) := by decide +kernel
theorem dX3_count_213 : decode cX3_count 213 = .ok (.getfield 10, 3) := by decide +kernel
theorem dX3_count_216 : decode cX3_count 216 = .ok (.getfield 228, 3) := by decide +kernel
theorem dX3_count_219 : decode cX3_count 219 = .ok (.iconst 2, 1) := by decide +kernel
theorem dX3_count_220 : decode cX3_count 220 = .ok (.iaload, 1) := by decide +kernel
theorem dX3_count_221 : decode cX3_count 221 = .ok (.ireturn, 1) := by decide +kernel
theorem dX3_count_222 : decode cX3_count 222 = .ok (.aload_n 0, 1) := by decide +kernel
theorem dX3_count_223 : decode cX3_count 223 = .ok (.getfield 22, 3) := by decide +kernel
theorem dX3_count_226 : decode cX3_count 226 = .ok (.getfield 114, 3) := by decide +kernel
theorem dX3_count_229 : decode cX3_count 229 = .ok (.ireturn, 1) := by decide +kernel
theorem dX3_count_230 : decode cX3_count 230 = .ok (.aload_n 0, 1) := by decide +kernel
theorem dX3_count_231 : decode cX3_count 231 = .ok (.getfield 29, 3) := by decide +kernel
theorem dX3_count_234 : decode cX3_count 234 = .ok (.getfield 231, 3) := by decide +kernel
theorem dX3_count_237 : decode cX3_count 237 = .ok (.ireturn, 1) := by decide +kernel
theorem dX3_count_238 : decode cX3_count 238 = .ok (.bipush (-2), 2) := by decide +kernel
theorem dX3_count_240 : decode cX3_count 240 = .ok (.ireturn, 1) := by decide +kernel
set_option maxRecDepth 20000 in
theorem ggX3_recorded_X0_keepDraft : GoodIn wsX3_recorded wsX0_keepDraft := goodIn_r _ [6, 7, 8, 16, 17] (by decide +kernel) (by decide +kernel)
set_option maxRecDepth 20000 in
theorem gX3_recorded_X0_keepDraft : GoodIn wsX3_recorded (wsV RX3 234 RX0 yX0_keepDraft wsX0_keepDraft) := goodIn_app (goodIn_of _ (by decide +kernel)) ggX3_recorded_X0_keepDraft
theorem dX3_recorded_0 : decode cX3_recorded 0 = .ok (.iload_n 1, 1) := by decide +kernel
theorem dX3_recorded_1 : decode cX3_recorded 1 = .ok (.ifCond .lt 10, 3) := by decide +kernel
theorem dX3_recorded_4 : decode cX3_recorded 4 = .ok (.aload_n 0, 1) := by decide +kernel
theorem dX3_recorded_5 : decode cX3_recorded 5 = .ok (.getfield 22, 3) := by decide +kernel
theorem dX3_recorded_8 : decode cX3_recorded 8 = .ok (.invokevirtual 234, 3) := by decide +kernel
theorem dX3_recorded_11 : decode cX3_recorded 11 = .ok (.iload_n 1, 1) := by decide +kernel
theorem dX3_recorded_12 : decode cX3_recorded 12 = .ok (.ireturn, 1) := by decide +kernel
set_option maxRecDepth 20000 in
theorem ggX3_isGust_X3_isWithin : GoodIn wsX3_isGust wsX3_isWithin := goodIn_r _ [4] (by decide +kernel) (by decide +kernel)
set_option maxRecDepth 20000 in
theorem gX3_isGust_X3_isWithin : GoodIn wsX3_isGust (va_wsS RX3 157 yX3_isWithin wsX3_isWithin) := goodIn_app (goodIn_of _ (by decide +kernel)) ggX3_isGust_X3_isWithin
theorem dX3_isGust_0 : decode cX3_isGust 0 = .ok (.iload_n 0, 1) := by decide +kernel
theorem dX3_isGust_1 : decode cX3_isGust 1 = .ok (.iconst 1, 1) := by decide +kernel
theorem dX3_isGust_2 : decode cX3_isGust 2 = .ok (.bipush 99, 2) := by decide +kernel
theorem dX3_isGust_4 : decode cX3_isGust 4 = .ok (.invokestatic 157, 3) := by decide +kernel
theorem dX3_isGust_7 : decode cX3_isGust 7 = .ok (.ifCond .eq 16, 3) := by decide +kernel
theorem dX3_isGust_10 : decode cX3_isGust 10 = .ok (.iload_n 1, 1) := by decide +kernel
theorem dX3_isGust_11 : decode cX3_isGust 11 = .ok (.iconst 0, 1) := by decide +kernel
theorem dX3_isGust_12 : decode cX3_isGust 12 = .ok (.iconst 2, 1) := by decide +kernel
theorem dX3_isGust_13 : decode cX3_isGust 13 = .ok (.invokestatic 157, 3) := by decide +kernel
theorem dX3_isGust_16 : decode cX3_isGust 16 = .ok (.ifCond .eq 7, 3) := by decide +kernel
theorem dX3_isGust_19 : decode cX3_isGust 19 = .ok (.iconst 1, 1) := by decide +kernel
theorem dX3_isGust_20 : decode cX3_isGust 20 = .ok (.goto 4, 3) := by decide +kernel
theorem dX3_isGust_23 : decode cX3_isGust 23 = .ok (.iconst 0, 1) := by decide +kernel
theorem dX3_isGust_24 : decode cX3_isGust 24 = .ok (.ireturn, 1) := by decide +kernel
theorem dX3_isWithin_0 : decode cX3_isWithin 0 = .ok (.iload_n 0, 1) := by decide +kernel
theorem dX3_isWithin_1 : decode cX3_isWithin 1 = .ok (.iload_n 1, 1) := by decide +kernel
theorem dX3_isWithin_2 : decode cX3_isWithin 2 = .ok (.if_icmp .lt 12, 3) := by decide +kernel
theorem dX3_isWithin_5 : decode cX3_isWithin 5 = .ok (.iload_n 0, 1) := by decide +kernel
theorem dX3_isWithin_6 : decode cX3_isWithin 6 = .ok (.iload_n 2, 1) := by decide +kernel
theorem dX3_isWithin_7 : decode cX3_isWithin 7 = .ok (.if_icmp .gt 7, 3) := by decide +kernel
theorem dX3_isWithin_10 : decode cX3_isWithin 10 = .ok (.iconst 1, 1) := by decide +kernel
theorem dX3_isWithin_11 : decode cX3_isWithin 11 = .ok (.goto 4, 3) := by decide +kernel
theorem dX3_isWithin_14 : decode cX3_isWithin 14 = .ok (.iconst 0, 1) := by decide +kernel
theorem dX3_isWithin_15 : decode cX3_isWithin 15 = .ok (.ireturn, 1) := by decide +kernel
end
section
theorem dJ9_max_7cf53_0 : decode cJ9_max_7cf53 0 = .ok (.iload_n 0, 1) := by decide +kernel
theorem dJ9_max_7cf53_1 : decode cJ9_max_7cf53 1 = .ok (.iload_n 1, 1) := by decide +kernel
theorem dJ9_max_7cf53_2 : decode cJ9_max_7cf53 2 = .ok (.if_icmp .lt 7, 3) := by decide +kernel
theorem dJ9_max_7cf53_5 : decode cJ9_max_7cf53 5 = .ok (.iload_n 0, 1) := by decide +kernel
theorem dJ9_max_7cf53_6 : decode cJ9_max_7cf53 6 = .ok (.goto 4, 3) := by decide +kernel
theorem dJ9_max_7cf53_9 : decode cJ9_max_7cf53 9 = .ok (.iload_n 1, 1) := by decide +kernel
theorem dJ9_max_7cf53_10 : decode cJ9_max_7cf53 10 = .ok (.ireturn, 1) := by decide +kernel
theorem dJ9_min_7cf53_0 : decode cJ9_min_7cf53 0 = .ok (.iload_n 0, 1) := by decide +kernel
theorem dJ9_min_7cf53_1 : decode cJ9_min_7cf53 1 = .ok (.iload_n 1, 1) := by decide +kernel
theorem dJ9_min_7cf53_2 : decode cJ9_min_7cf53 2 = .ok (.if_icmp .gt 7, 3) := by decide +kernel
theorem dJ9_min_7cf53_5 : decode cJ9_min_7cf53 5 = .ok (.iload_n 0, 1) := by decide +kernel
theorem dJ9_min_7cf53_6 : decode cJ9_min_7cf53 6 = .ok (.goto 4, 3) := by decide +kernel
theorem dJ9_min_7cf53_9 : decode cJ9_min_7cf53 9 = .ok (.iload_n 1, 1) := by decide +kernel
theorem dJ9_min_7cf53_10 : decode cJ9_min_7cf53 10 = .ok (.ireturn, 1) := by decide +kernel
theorem dL_cell_0 : decode cL_cell 0 = .ok (.iload_n 1, 1) := by decide +kernel
theorem dL_cell_1 : decode cL_cell 1 = .ok (.aload_n 0, 1) := by decide +kernel
theorem dL_cell_2 : decode cL_cell 2 = .ok (.arraylength, 1) := by decide +kernel
theorem dL_cell_3 : decode cL_cell 3 = .ok (.if_icmp .ge 9, 3) := by decide +kernel
theorem dL_cell_6 : decode cL_cell 6 = .ok (.aload_n 0, 1) := by decide +kernel
theorem dL_cell_7 : decode cL_cell 7 = .ok (.iload_n 1, 1) := by decide +kernel
theorem dL_cell_8 : decode cL_cell 8 = .ok (.iaload, 1) := by decide +kernel
theorem dL_cell_9 : decode cL_cell 9 = .ok (.goto 11, 3) := by decide +kernel
theorem dL_cell_12 : decode cL_cell 12 = .ok (.ldc 7, 2) := by decide +kernel
theorem dL_cell_14 : decode cL_cell 14 = .ok (.iload_n 1, 1) := by decide +kernel
theorem dL_cell_15 : decode cL_cell 15 = .ok (.imul, 1) := by decide +kernel
theorem dL_cell_16 : decode cL_cell 16 = .ok (.sipush 977, 3) := by decide +kernel
theorem dL_cell_19 : decode cL_cell 19 = .ok (.iadd, 1) := by decide +kernel
theorem dL_cell_20 : decode cL_cell 20 = .ok (.ireturn, 1) := by decide +kernel
theorem dL_low_0 : decode cL_low 0 = .ok (.iload_n 0, 1) := by decide +kernel
theorem dL_low_1 : decode cL_low 1 = .ok (.ldc 8, 2) := by decide +kernel
theorem dL_low_3 : decode cL_low 3 = .ok (.iand, 1) := by decide +kernel
theorem dL_low_4 : decode cL_low 4 = .ok (.iload_n 1, 1) := by decide +kernel
theorem dL_low_5 : decode cL_low 5 = .ok (.irem, 1) := by decide +kernel
theorem dL_low_6 : decode cL_low 6 = .ok (.ireturn, 1) := by decide +kernel
set_option maxRecDepth 20000 in
theorem ggL_act_X3_count_0 : GoodIn wsL_act [.code yX3_count cX3_count 2 (some .int)] := goodIn_r _ [5] (by decide +kernel) (by decide +kernel)
set_option maxRecDepth 20000 in
theorem ggL_act_X3_count_1 : GoodIn wsL_act wsX3_count_r1 := goodIn_r _ [6, 7, 8, 9, 10, 11, 12, 13, 14, 15, 16, 17, 18, 19, 20, 21, 22, 23, 24, 25, 26, 27, 28, 29] (by decide +kernel) (by decide +kernel)
set_option maxRecDepth 20000 in
theorem ggL_act_X3_count_2 : GoodIn wsL_act wsX3_count_r2 := goodIn_r _ [30, 31, 32, 33, 34, 35, 36, 37, 38, 39, 40, 41, 42, 43, 44, 45, 46, 47, 48, 49, 50, 51, 52, 53] (by decide +kernel) (by decide +kernel)
set_option maxRecDepth 20000 in
theorem ggL_act_X3_count_3 : GoodIn wsL_act wsX3_count_r3 := goodIn_r _ [54, 55, 56, 57, 4, 58] (by decide +kernel) (by decide +kernel)
set_option maxRecDepth 20000 in
theorem ggL_act_X3_count_4 : GoodIn wsL_act wsX30 := goodIn_r _ [261, 262, 263, 264, 265, 266, 267] (by decide +kernel) (by decide +kernel)
set_option maxRecDepth 20000 in
theorem ggL_act_X3_count_5 : GoodIn wsL_act wsX10 := goodIn_r _ [268, 269, 270, 271, 272, 273, 274, 275, 276, 277, 278, 279, 280, 281, 282, 283, 284] (by decide +kernel) (by decide +kernel)
set_option maxRecDepth 20000 in
theorem ggL_act_X3_count_6 : GoodIn wsL_act wsX00 := goodIn_r _ [285, 286] (by decide +kernel) (by decide +kernel)
set_option maxRecDepth 20000 in
theorem ggL_act_X3_count_7 : GoodIn wsL_act wsX20 := goodIn_r _ [287, 288, 289, 290, 291, 292, 293] (by decide +kernel) (by decide +kernel)
theorem ggL_act_X3_count : GoodIn wsL_act wsX3_count := fun w h => (List.mem_cons.mp h).elim (fun z => ggL_act_X3_count_0 w (List.mem_singleton.mpr z)) (fun z => (List.forall_mem_append.mpr ⟨List.forall_mem_append.mpr ⟨List.forall_mem_append.mpr ⟨List.forall_mem_append.mpr ⟨List.forall_mem_append.mpr ⟨ggL_act_X3_count_1, List.forall_mem_append.mpr ⟨ggL_act_X3_count_2, ggL_act_X3_count_3⟩⟩, ggL_act_X3_count_4⟩, ggL_act_X3_count_5⟩, ggL_act_X3_count_6⟩, ggL_act_X3_count_7⟩) w z)
set_option maxRecDepth 20000 in
theorem gL_act_X3_count : GoodIn wsL_act (wsV RL 9 RX3 yX3_count wsX3_count) := goodIn_app (goodIn_of _ (by decide +kernel)) ggL_act_X3_count
set_option maxRecDepth 20000 in
theorem ggL_act_L_low : GoodIn wsL_act wsL_low := goodIn_r _ [62, 63] (by decide +kernel) (by decide +kernel)
set_option maxRecDepth 20000 in
theorem gL_act_L_low : GoodIn wsL_act (va_wsS RL 15 yL_low wsL_low) := goodIn_app (goodIn_of _ (by decide +kernel)) ggL_act_L_low
set_option maxRecDepth 20000 in
theorem ggL_act_X3_come_0 : GoodIn wsL_act [.code yX3_come cX3_come 4 (some .int)] := goodIn_r _ [67] (by decide +kernel) (by decide +kernel)
set_option maxRecDepth 20000 in
theorem ggL_act_X3_come_1 : GoodIn wsL_act wsX3_come_r1 := goodIn_r _ [18, 6, 68, 69, 70, 71, 72, 73, 74, 75, 76, 77, 78, 79, 80, 81, 25, 82, 83, 84, 85, 86, 87, 28] (by decide +kernel) (by decide +kernel)
set_option maxRecDepth 20000 in
theorem ggL_act_X3_come_2 : GoodIn wsL_act wsX3_come_r2 := goodIn_r _ [88, 89, 41, 90, 91, 27, 92, 93, 94, 95, 96, 97, 98, 99, 100, 101, 102, 103, 104, 57, 4, 58, 105, 106] (by decide +kernel) (by decide +kernel)
set_option maxRecDepth 20000 in
theorem ggL_act_X3_come_3 : GoodIn wsL_act wsX3_come_r3 := goodIn_r _ [107, 108, 109, 110, 111, 112] (by decide +kernel) (by decide +kernel)
set_option maxRecDepth 20000 in
theorem ggL_act_X3_come_4 : GoodIn wsL_act wsX30 := goodIn_r _ [261, 262, 263, 264, 265, 266, 267] (by decide +kernel) (by decide +kernel)
set_option maxRecDepth 20000 in
theorem ggL_act_X3_come_5 : GoodIn wsL_act wsX00 := goodIn_r _ [285, 286] (by decide +kernel) (by decide +kernel)
set_option maxRecDepth 20000 in
theorem ggL_act_X3_come_6 : GoodIn wsL_act wsX10 := goodIn_r _ [268, 269, 270, 271, 272, 273, 274, 275, 276, 277, 278, 279, 280, 281, 282, 283, 284] (by decide +kernel) (by decide +kernel)
theorem ggL_act_X3_come : GoodIn wsL_act wsX3_come := fun w h => (List.mem_cons.mp h).elim (fun z => ggL_act_X3_come_0 w (List.mem_singleton.mpr z)) (fun z => (List.forall_mem_append.mpr ⟨List.forall_mem_append.mpr ⟨List.forall_mem_append.mpr ⟨List.forall_mem_append.mpr ⟨ggL_act_X3_come_1, List.forall_mem_append.mpr ⟨ggL_act_X3_come_2, ggL_act_X3_come_3⟩⟩, ggL_act_X3_come_4⟩, ggL_act_X3_come_5⟩, ggL_act_X3_come_6⟩) w z)
set_option maxRecDepth 20000 in
theorem gL_act_X3_come : GoodIn wsL_act (wsV RL 21 RX3 yX3_come wsX3_come) := goodIn_app (goodIn_of _ (by decide +kernel)) ggL_act_X3_come
set_option maxRecDepth 20000 in
theorem ggL_act_X3_leave_0 : GoodIn wsL_act [.code yX3_leave cX3_leave 2 (some .int)] := goodIn_r _ [116] (by decide +kernel) (by decide +kernel)
set_option maxRecDepth 20000 in
theorem ggL_act_X3_leave_1 : GoodIn wsL_act wsX3_leave_r1 := goodIn_r _ [18, 6, 68, 69, 70, 71, 72, 73, 74, 75, 76, 77, 78, 79, 80, 81, 25, 82, 83, 84, 85, 86, 87, 28] (by decide +kernel) (by decide +kernel)
set_option maxRecDepth 20000 in
theorem ggL_act_X3_leave_2 : GoodIn wsL_act wsX3_leave_r2 := goodIn_r _ [88, 89, 41, 90, 91, 27, 92, 93, 94, 95, 96, 97, 98, 99, 100, 117, 118, 119, 120, 121, 122, 123, 124, 125] (by decide +kernel) (by decide +kernel)
set_option maxRecDepth 20000 in
theorem ggL_act_X3_leave_3 : GoodIn wsL_act wsX3_leave_r3 := goodIn_r _ [126, 127, 128, 129, 130, 131, 105, 106, 107, 4, 108, 109, 110, 111, 112] (by decide +kernel) (by decide +kernel)
set_option maxRecDepth 20000 in
theorem ggL_act_X3_leave_4 : GoodIn wsL_act wsX30 := goodIn_r _ [261, 262, 263, 264, 265, 266, 267] (by decide +kernel) (by decide +kernel)
set_option maxRecDepth 20000 in
theorem ggL_act_X3_leave_5 : GoodIn wsL_act wsX00 := goodIn_r _ [285, 286] (by decide +kernel) (by decide +kernel)
set_option maxRecDepth 20000 in
theorem ggL_act_X3_leave_6 : GoodIn wsL_act wsX10 := goodIn_r _ [268, 269, 270, 271, 272, 273, 274, 275, 276, 277, 278, 279, 280, 281, 282, 283, 284] (by decide +kernel) (by decide +kernel)
theorem ggL_act_X3_leave : GoodIn wsL_act wsX3_leave := fun w h => (List.mem_cons.mp h).elim (fun z => ggL_act_X3_leave_0 w (List.mem_singleton.mpr z)) (fun z => (List.forall_mem_append.mpr ⟨List.forall_mem_append.mpr ⟨List.forall_mem_append.mpr ⟨List.forall_mem_append.mpr ⟨ggL_act_X3_leave_1, List.forall_mem_append.mpr ⟨ggL_act_X3_leave_2, ggL_act_X3_leave_3⟩⟩, ggL_act_X3_leave_4⟩, ggL_act_X3_leave_5⟩, ggL_act_X3_leave_6⟩) w z)
set_option maxRecDepth 20000 in
theorem gL_act_X3_leave : GoodIn wsL_act (wsV RL 25 RX3 yX3_leave wsX3_leave) := goodIn_app (goodIn_of _ (by decide +kernel)) ggL_act_X3_leave
set_option maxRecDepth 20000 in
theorem ggL_act_X3_letAhead_0 : GoodIn wsL_act [.code yX3_letAhead cX3_letAhead 2 (some .int)] := goodIn_r _ [135] (by decide +kernel) (by decide +kernel)
set_option maxRecDepth 20000 in
theorem ggL_act_X3_letAhead_1 : GoodIn wsL_act wsX3_letAhead_r1 := goodIn_r _ [18, 6, 68, 69, 70, 71, 72, 73, 74, 75, 76, 77, 78, 79, 80, 81, 25, 82, 83, 84, 85, 86, 87, 28] (by decide +kernel) (by decide +kernel)
set_option maxRecDepth 20000 in
theorem ggL_act_X3_letAhead_2 : GoodIn wsL_act wsX3_letAhead_r2 := goodIn_r _ [88, 89, 41, 90, 91, 27, 92, 93, 94, 95, 96, 97, 98, 99, 100, 136, 137, 138, 139, 140, 141, 142, 143, 144] (by decide +kernel) (by decide +kernel)
set_option maxRecDepth 20000 in
theorem ggL_act_X3_letAhead_3 : GoodIn wsL_act wsX3_letAhead_r3 := goodIn_r _ [145, 146, 105, 106, 107, 4, 108, 109, 110, 111, 112] (by decide +kernel) (by decide +kernel)
set_option maxRecDepth 20000 in
theorem ggL_act_X3_letAhead_4 : GoodIn wsL_act wsX30 := goodIn_r _ [261, 262, 263, 264, 265, 266, 267] (by decide +kernel) (by decide +kernel)
set_option maxRecDepth 20000 in
theorem ggL_act_X3_letAhead_5 : GoodIn wsL_act wsX00 := goodIn_r _ [285, 286] (by decide +kernel) (by decide +kernel)
set_option maxRecDepth 20000 in
theorem ggL_act_X3_letAhead_6 : GoodIn wsL_act wsX10 := goodIn_r _ [268, 269, 270, 271, 272, 273, 274, 275, 276, 277, 278, 279, 280, 281, 282, 283, 284] (by decide +kernel) (by decide +kernel)
theorem ggL_act_X3_letAhead : GoodIn wsL_act wsX3_letAhead := fun w h => (List.mem_cons.mp h).elim (fun z => ggL_act_X3_letAhead_0 w (List.mem_singleton.mpr z)) (fun z => (List.forall_mem_append.mpr ⟨List.forall_mem_append.mpr ⟨List.forall_mem_append.mpr ⟨List.forall_mem_append.mpr ⟨ggL_act_X3_letAhead_1, List.forall_mem_append.mpr ⟨ggL_act_X3_letAhead_2, ggL_act_X3_letAhead_3⟩⟩, ggL_act_X3_letAhead_4⟩, ggL_act_X3_letAhead_5⟩, ggL_act_X3_letAhead_6⟩) w z)
set_option maxRecDepth 20000 in
theorem gL_act_X3_letAhead : GoodIn wsL_act (wsV RL 28 RX3 yX3_letAhead wsX3_letAhead) := goodIn_app (goodIn_of _ (by decide +kernel)) ggL_act_X3_letAhead
set_option maxRecDepth 20000 in
theorem ggL_act_X3_swap_0 : GoodIn wsL_act [.code yX3_swap cX3_swap 2 (some .int)] := goodIn_r _ [150] (by decide +kernel) (by decide +kernel)
set_option maxRecDepth 20000 in
theorem ggL_act_X3_swap_1 : GoodIn wsL_act wsX3_swap_r1 := goodIn_r _ [18, 6, 68, 69, 70, 71, 72, 73, 74, 75, 76, 77, 78, 79, 80, 81, 25, 82, 83, 84, 85, 86, 87, 28] (by decide +kernel) (by decide +kernel)
set_option maxRecDepth 20000 in
theorem ggL_act_X3_swap_2 : GoodIn wsL_act wsX3_swap_r2 := goodIn_r _ [88, 89, 41, 90, 91, 27, 92, 93, 94, 95, 96, 97, 98, 99, 100, 151, 152, 153, 154, 140, 141, 142, 143, 155] (by decide +kernel) (by decide +kernel)
set_option maxRecDepth 20000 in
theorem ggL_act_X3_swap_3 : GoodIn wsL_act wsX3_swap_r3 := goodIn_r _ [156, 157, 158, 144, 145, 146, 105, 106, 107, 4, 108, 109, 110, 111, 112] (by decide +kernel) (by decide +kernel)
set_option maxRecDepth 20000 in
theorem ggL_act_X3_swap_4 : GoodIn wsL_act wsX30 := goodIn_r _ [261, 262, 263, 264, 265, 266, 267] (by decide +kernel) (by decide +kernel)
set_option maxRecDepth 20000 in
theorem ggL_act_X3_swap_5 : GoodIn wsL_act wsX00 := goodIn_r _ [285, 286] (by decide +kernel) (by decide +kernel)
set_option maxRecDepth 20000 in
theorem ggL_act_X3_swap_6 : GoodIn wsL_act wsX10 := goodIn_r _ [268, 269, 270, 271, 272, 273, 274, 275, 276, 277, 278, 279, 280, 281, 282, 283, 284] (by decide +kernel) (by decide +kernel)
theorem ggL_act_X3_swap : GoodIn wsL_act wsX3_swap := fun w h => (List.mem_cons.mp h).elim (fun z => ggL_act_X3_swap_0 w (List.mem_singleton.mpr z)) (fun z => (List.forall_mem_append.mpr ⟨List.forall_mem_append.mpr ⟨List.forall_mem_append.mpr ⟨List.forall_mem_append.mpr ⟨ggL_act_X3_swap_1, List.forall_mem_append.mpr ⟨ggL_act_X3_swap_2, ggL_act_X3_swap_3⟩⟩, ggL_act_X3_swap_4⟩, ggL_act_X3_swap_5⟩, ggL_act_X3_swap_6⟩) w z)
set_option maxRecDepth 20000 in
theorem gL_act_X3_swap : GoodIn wsL_act (wsV RL 31 RX3 yX3_swap wsX3_swap) := goodIn_app (goodIn_of _ (by decide +kernel)) ggL_act_X3_swap
set_option maxRecDepth 20000 in
theorem ggL_act_X3_set_0 : GoodIn wsL_act [.code yX3_set cX3_set 3 (some .int)] := goodIn_r _ [162] (by decide +kernel) (by decide +kernel)
set_option maxRecDepth 20000 in
theorem ggL_act_X3_set_1 : GoodIn wsL_act wsX3_set_r1 := goodIn_r _ [18, 6, 68, 69, 70, 71, 72, 73, 74, 75, 76, 77, 78, 79, 80, 81, 25, 82, 83, 84, 85, 86, 87, 28] (by decide +kernel) (by decide +kernel)
set_option maxRecDepth 20000 in
theorem ggL_act_X3_set_2 : GoodIn wsL_act wsX3_set_r2 := goodIn_r _ [88, 89, 41, 90, 91, 27, 92, 93, 94, 95, 96, 97, 98, 99, 100, 163, 164, 165, 166, 57, 4, 58, 105, 106] (by decide +kernel) (by decide +kernel)
set_option maxRecDepth 20000 in
theorem ggL_act_X3_set_3 : GoodIn wsL_act wsX3_set_r3 := goodIn_r _ [107, 108, 109, 110, 111, 112] (by decide +kernel) (by decide +kernel)
set_option maxRecDepth 20000 in
theorem ggL_act_X3_set_4 : GoodIn wsL_act wsX30 := goodIn_r _ [261, 262, 263, 264, 265, 266, 267] (by decide +kernel) (by decide +kernel)
set_option maxRecDepth 20000 in
theorem ggL_act_X3_set_5 : GoodIn wsL_act wsX00 := goodIn_r _ [285, 286] (by decide +kernel) (by decide +kernel)
set_option maxRecDepth 20000 in
theorem ggL_act_X3_set_6 : GoodIn wsL_act wsX10 := goodIn_r _ [268, 269, 270, 271, 272, 273, 274, 275, 276, 277, 278, 279, 280, 281, 282, 283, 284] (by decide +kernel) (by decide +kernel)
theorem ggL_act_X3_set : GoodIn wsL_act wsX3_set := fun w h => (List.mem_cons.mp h).elim (fun z => ggL_act_X3_set_0 w (List.mem_singleton.mpr z)) (fun z => (List.forall_mem_append.mpr ⟨List.forall_mem_append.mpr ⟨List.forall_mem_append.mpr ⟨List.forall_mem_append.mpr ⟨ggL_act_X3_set_1, List.forall_mem_append.mpr ⟨ggL_act_X3_set_2, ggL_act_X3_set_3⟩⟩, ggL_act_X3_set_4⟩, ggL_act_X3_set_5⟩, ggL_act_X3_set_6⟩) w z)
set_option maxRecDepth 20000 in
theorem gL_act_X3_set : GoodIn wsL_act (wsV RL 34 RX3 yX3_set wsX3_set) := goodIn_app (goodIn_of _ (by decide +kernel)) ggL_act_X3_set
set_option maxRecDepth 20000 in
theorem ggL_act_X3_serve_0 : GoodIn wsL_act [.code yX3_serve cX3_serve 1 (some .int)] := goodIn_r _ [170] (by decide +kernel) (by decide +kernel)
set_option maxRecDepth 20000 in
theorem ggL_act_X3_serve_1 : GoodIn wsL_act wsX3_serve_r1 := goodIn_r _ [18, 6, 68, 69, 70, 71, 72, 73, 74, 75, 76, 77, 78, 79, 80, 81, 25, 82, 83, 84, 85, 86, 87, 28] (by decide +kernel) (by decide +kernel)
set_option maxRecDepth 20000 in
theorem ggL_act_X3_serve_2 : GoodIn wsL_act wsX3_serve_r2 := goodIn_r _ [88, 89, 41, 90, 91, 27, 92, 93, 94, 95, 96, 97, 98, 99, 100, 171, 172, 173, 174, 175, 176, 177, 178, 54] (by decide +kernel) (by decide +kernel)
set_option maxRecDepth 20000 in
theorem ggL_act_X3_serve_3 : GoodIn wsL_act wsX3_serve_r3 := goodIn_r _ [55, 48, 56, 179, 180, 181, 182, 183, 184, 185, 186, 187, 188, 189, 190, 125, 126, 127, 128, 129, 130, 131, 105, 106] (by decide +kernel) (by decide +kernel)
set_option maxRecDepth 20000 in
theorem ggL_act_X3_serve_4 : GoodIn wsL_act wsX3_serve_r4 := goodIn_r _ [107, 4, 108, 109, 110, 111, 112] (by decide +kernel) (by decide +kernel)
set_option maxRecDepth 20000 in
theorem ggL_act_X3_serve_5 : GoodIn wsL_act wsX30 := goodIn_r _ [261, 262, 263, 264, 265, 266, 267] (by decide +kernel) (by decide +kernel)
set_option maxRecDepth 20000 in
theorem ggL_act_X3_serve_6 : GoodIn wsL_act wsX00 := goodIn_r _ [285, 286] (by decide +kernel) (by decide +kernel)
set_option maxRecDepth 20000 in
theorem ggL_act_X3_serve_7 : GoodIn wsL_act wsX10 := goodIn_r _ [268, 269, 270, 271, 272, 273, 274, 275, 276, 277, 278, 279, 280, 281, 282, 283, 284] (by decide +kernel) (by decide +kernel)
theorem ggL_act_X3_serve : GoodIn wsL_act wsX3_serve := fun w h => (List.mem_cons.mp h).elim (fun z => ggL_act_X3_serve_0 w (List.mem_singleton.mpr z)) (fun z => (List.forall_mem_append.mpr ⟨List.forall_mem_append.mpr ⟨List.forall_mem_append.mpr ⟨List.forall_mem_append.mpr ⟨ggL_act_X3_serve_1, List.forall_mem_append.mpr ⟨ggL_act_X3_serve_2, List.forall_mem_append.mpr ⟨ggL_act_X3_serve_3, ggL_act_X3_serve_4⟩⟩⟩, ggL_act_X3_serve_5⟩, ggL_act_X3_serve_6⟩, ggL_act_X3_serve_7⟩) w z)
set_option maxRecDepth 20000 in
theorem gL_act_X3_serve : GoodIn wsL_act (wsV RL 37 RX3 yX3_serve wsX3_serve) := goodIn_app (goodIn_of _ (by decide +kernel)) ggL_act_X3_serve
set_option maxRecDepth 20000 in
theorem ggL_act_X3_pass_0 : GoodIn wsL_act [.code yX3_pass cX3_pass 2 (some .int)] := goodIn_r _ [194] (by decide +kernel) (by decide +kernel)
set_option maxRecDepth 20000 in
theorem ggL_act_X3_pass_1 : GoodIn wsL_act wsX3_pass_r1 := goodIn_r _ [18, 6, 68, 69, 70, 71, 72, 73, 74, 75, 76, 77, 78, 79, 80, 81, 25, 82, 83, 84, 85, 86, 87, 28] (by decide +kernel) (by decide +kernel)
set_option maxRecDepth 20000 in
theorem ggL_act_X3_pass_2 : GoodIn wsL_act wsX3_pass_r2 := goodIn_r _ [88, 89, 41, 90, 91, 27, 92, 93, 94, 95, 96, 97, 98, 99, 100, 195, 196, 197, 198, 199, 46, 47, 48, 49] (by decide +kernel) (by decide +kernel)
set_option maxRecDepth 20000 in
theorem ggL_act_X3_pass_3 : GoodIn wsL_act wsX3_pass_r3 := goodIn_r _ [57, 4, 58, 105, 106, 107, 108, 109, 110, 111, 112] (by decide +kernel) (by decide +kernel)
set_option maxRecDepth 20000 in
theorem ggL_act_X3_pass_4 : GoodIn wsL_act wsX30 := goodIn_r _ [261, 262, 263, 264, 265, 266, 267] (by decide +kernel) (by decide +kernel)
set_option maxRecDepth 20000 in
theorem ggL_act_X3_pass_5 : GoodIn wsL_act wsX00 := goodIn_r _ [285, 286] (by decide +kernel) (by decide +kernel)
set_option maxRecDepth 20000 in
theorem ggL_act_X3_pass_6 : GoodIn wsL_act wsX10 := goodIn_r _ [268, 269, 270, 271, 272, 273, 274, 275, 276, 277, 278, 279, 280, 281, 282, 283, 284] (by decide +kernel) (by decide +kernel)
theorem ggL_act_X3_pass : GoodIn wsL_act wsX3_pass := fun w h => (List.mem_cons.mp h).elim (fun z => ggL_act_X3_pass_0 w (List.mem_singleton.mpr z)) (fun z => (List.forall_mem_append.mpr ⟨List.forall_mem_append.mpr ⟨List.forall_mem_append.mpr ⟨List.forall_mem_append.mpr ⟨ggL_act_X3_pass_1, List.forall_mem_append.mpr ⟨ggL_act_X3_pass_2, ggL_act_X3_pass_3⟩⟩, ggL_act_X3_pass_4⟩, ggL_act_X3_pass_5⟩, ggL_act_X3_pass_6⟩) w z)
set_option maxRecDepth 20000 in
theorem gL_act_X3_pass : GoodIn wsL_act (wsV RL 41 RX3 yX3_pass wsX3_pass) := goodIn_app (goodIn_of _ (by decide +kernel)) ggL_act_X3_pass
set_option maxRecDepth 20000 in
theorem ggL_act_L_gust_0 : GoodIn wsL_act [.code yL_gust cL_gust 12 (some .int)] := goodIn_r _ [202] (by decide +kernel) (by decide +kernel)
set_option maxRecDepth 20000 in
theorem ggL_act_L_gust_1 : GoodIn wsL_act wsL_gust_r1 := goodIn_r _ [203, 1, 2, 3, 4, 5, 6, 7, 8, 9, 10, 11, 12, 13, 14, 15, 16, 17, 18, 19, 20, 21, 22, 23] (by decide +kernel) (by decide +kernel)
set_option maxRecDepth 20000 in
theorem ggL_act_L_gust_2 : GoodIn wsL_act wsL_gust_r2 := goodIn_r _ [24, 25, 26, 27, 28, 29, 30, 31, 32, 33, 34, 35, 36, 37, 38, 39, 40, 41, 42, 43, 44, 45, 46, 47] (by decide +kernel) (by decide +kernel)
set_option maxRecDepth 20000 in
theorem ggL_act_L_gust_3 : GoodIn wsL_act wsL_gust_r3 := goodIn_r _ [48, 49, 50, 51, 52, 53, 54, 55, 56, 57, 58, 204, 205, 206, 207, 208, 209, 122, 123, 124, 210, 211, 212, 213] (by decide +kernel) (by decide +kernel)
set_option maxRecDepth 20000 in
theorem ggL_act_L_gust_4 : GoodIn wsL_act wsL_gust_r4 := goodIn_r _ [214, 215, 216, 217, 218, 219, 220, 221, 222, 223, 224, 225, 226, 227, 228, 229, 230, 231, 232, 233, 234, 235, 236, 237] (by decide +kernel) (by decide +kernel)
set_option maxRecDepth 20000 in
theorem ggL_act_L_gust_5 : GoodIn wsL_act wsL_gust_r5 := goodIn_r _ [238, 239, 240, 241, 242, 243, 244, 245, 246, 247, 68, 69, 70, 71, 72, 73, 74, 75, 76, 77, 78, 79, 80, 81] (by decide +kernel) (by decide +kernel)
set_option maxRecDepth 20000 in
theorem ggL_act_L_gust_6 : GoodIn wsL_act wsL_gust_r6 := goodIn_r _ [82, 83, 84, 85, 86, 87, 88, 89, 90, 91, 92, 93, 94, 95, 96, 97, 98, 99, 100, 248, 249, 250, 251, 252] (by decide +kernel) (by decide +kernel)
set_option maxRecDepth 20000 in
theorem ggL_act_L_gust_7 : GoodIn wsL_act wsL_gust_r7 := goodIn_r _ [253, 254, 255, 256, 125, 126, 127, 128, 129, 130, 131, 105, 106, 107, 108, 109, 110, 111, 112, 257, 258, 259, 260] (by decide +kernel) (by decide +kernel)
set_option maxRecDepth 20000 in
theorem ggL_act_L_gust_8 : GoodIn wsL_act wsX30 := goodIn_r _ [261, 262, 263, 264, 265, 266, 267] (by decide +kernel) (by decide +kernel)
set_option maxRecDepth 20000 in
theorem ggL_act_L_gust_9 : GoodIn wsL_act wsX10 := goodIn_r _ [268, 269, 270, 271, 272, 273, 274, 275, 276, 277, 278, 279, 280, 281, 282, 283, 284] (by decide +kernel) (by decide +kernel)
set_option maxRecDepth 20000 in
theorem ggL_act_L_gust_10 : GoodIn wsL_act wsX00 := goodIn_r _ [285, 286] (by decide +kernel) (by decide +kernel)
set_option maxRecDepth 20000 in
theorem ggL_act_L_gust_11 : GoodIn wsL_act wsX20 := goodIn_r _ [287, 288, 289, 290, 291, 292, 293] (by decide +kernel) (by decide +kernel)
theorem ggL_act_L_gust : GoodIn wsL_act wsL_gust := fun w h => (List.mem_cons.mp h).elim (fun z => ggL_act_L_gust_0 w (List.mem_singleton.mpr z)) (fun z => (List.forall_mem_append.mpr ⟨List.forall_mem_append.mpr ⟨List.forall_mem_append.mpr ⟨List.forall_mem_append.mpr ⟨List.forall_mem_append.mpr ⟨ggL_act_L_gust_1, List.forall_mem_append.mpr ⟨ggL_act_L_gust_2, List.forall_mem_append.mpr ⟨ggL_act_L_gust_3, List.forall_mem_append.mpr ⟨ggL_act_L_gust_4, List.forall_mem_append.mpr ⟨ggL_act_L_gust_5, List.forall_mem_append.mpr ⟨ggL_act_L_gust_6, ggL_act_L_gust_7⟩⟩⟩⟩⟩⟩, ggL_act_L_gust_8⟩, ggL_act_L_gust_9⟩, ggL_act_L_gust_10⟩, ggL_act_L_gust_11⟩) w z)
set_option maxRecDepth 20000 in
theorem gL_act_L_gust : GoodIn wsL_act (va_wsS RL 44 yL_gust wsL_gust) := goodIn_app (goodIn_of _ (by decide +kernel)) ggL_act_L_gust
theorem dL_act_0 : decode cL_act 0 = .ok (.iload_n 2, 1) := by decide +kernel
theorem dL_act_1 : decode cL_act 1 = .ok (.aload_n 0, 1) := by decide +kernel
theorem dL_act_2 : decode cL_act 2 = .ok (.iconst 0, 1) := by decide +kernel
theorem dL_act_3 : decode cL_act 3 = .ok (.invokevirtual 9, 3) := by decide +kernel
theorem dL_act_6 : decode cL_act 6 = .ok (.iconst 1, 1) := by decide +kernel
theorem dL_act_7 : decode cL_act 7 = .ok (.iadd, 1) := by decide +kernel
theorem dL_act_8 : decode cL_act 8 = .ok (.invokestatic 15, 3) := by decide +kernel
theorem dL_act_11 : decode cL_act 11 = .ok (.istore 4, 2) := by decide +kernel
theorem dL_act_13 : decode cL_act 13 = .ok (.iload_n 1, 1) := by decide +kernel
theorem dL_act_14 : decode cL_act 14 = .ok (.tableswitch 149 0 12 #[66, 66, 66, 66, 66, 96, 103, 110, 110, 110, 117, 133, 138], 66) := by decide +kernel
theorem dL_act_80 : decode cL_act 80 = .ok (.aload_n 0, 1) := by decide +kernel
theorem dL_act_81 : decode cL_act 81 = .ok (.bipush 8, 2) := by decide +kernel
theorem dL_act_83 : decode cL_act 83 = .ok (.iload_n 2, 1) := by decide +kernel
theorem dL_act_84 : decode cL_act 84 = .ok (.sipush 300, 3) := by decide +kernel
theorem dL_act_87 : decode cL_act 87 = .ok (.invokestatic 15, 3) := by decide +kernel
theorem dL_act_90 : decode cL_act 90 = .ok (.iadd, 1) := by decide +kernel
theorem dL_act_91 : decode cL_act 91 = .ok (.iload_n 3, 1) := by decide +kernel
theorem dL_act_92 : decode cL_act 92 = .ok (.bipush 40, 2) := by decide +kernel
theorem dL_act_94 : decode cL_act 94 = .ok (.invokestatic 15, 3) := by decide +kernel
theorem dL_act_97 : decode cL_act 97 = .ok (.iload_n 3, 1) := by decide +kernel
theorem dL_act_98 : decode cL_act 98 = .ok (.bipush 6, 2) := by decide +kernel
theorem dL_act_100 : decode cL_act 100 = .ok (.ishr, 1) := by decide +kernel
theorem dL_act_101 : decode cL_act 101 = .ok (.bipush 7, 2) := by decide +kernel
theorem dL_act_103 : decode cL_act 103 = .ok (.invokestatic 15, 3) := by decide +kernel
theorem dL_act_106 : decode cL_act 106 = .ok (.invokevirtual 21, 3) := by decide +kernel
theorem dL_act_109 : decode cL_act 109 = .ok (.ireturn, 1) := by decide +kernel
theorem dL_act_110 : decode cL_act 110 = .ok (.aload_n 0, 1) := by decide +kernel
theorem dL_act_111 : decode cL_act 111 = .ok (.iload 4, 2) := by decide +kernel
theorem dL_act_113 : decode cL_act 113 = .ok (.invokevirtual 25, 3) := by decide +kernel
theorem dL_act_116 : decode cL_act 116 = .ok (.ireturn, 1) := by decide +kernel
theorem dL_act_117 : decode cL_act 117 = .ok (.aload_n 0, 1) := by decide +kernel
theorem dL_act_118 : decode cL_act 118 = .ok (.iload 4, 2) := by decide +kernel
theorem dL_act_120 : decode cL_act 120 = .ok (.invokevirtual 28, 3) := by decide +kernel
theorem dL_act_123 : decode cL_act 123 = .ok (.ireturn, 1) := by decide +kernel
theorem dL_act_124 : decode cL_act 124 = .ok (.aload_n 0, 1) := by decide +kernel
theorem dL_act_125 : decode cL_act 125 = .ok (.iload 4, 2) := by decide +kernel
theorem dL_act_127 : decode cL_act 127 = .ok (.invokevirtual 31, 3) := by decide +kernel
theorem dL_act_130 : decode cL_act 130 = .ok (.ireturn, 1) := by decide +kernel
theorem dL_act_131 : decode cL_act 131 = .ok (.aload_n 0, 1) := by decide +kernel
theorem dL_act_132 : decode cL_act 132 = .ok (.iload_n 2, 1) := by decide +kernel
theorem dL_act_133 : decode cL_act 133 = .ok (.iconst 4, 1) := by decide +kernel
theorem dL_act_134 : decode cL_act 134 = .ok (.invokestatic 15, 3) := by decide +kernel
theorem dL_act_137 : decode cL_act 137 = .ok (.iload_n 3, 1) := by decide +kernel
theorem dL_act_138 : decode cL_act 138 = .ok (.bipush 20, 2) := by decide +kernel
theorem dL_act_140 : decode cL_act 140 = .ok (.invokestatic 15, 3) := by decide +kernel
theorem dL_act_143 : decode cL_act 143 = .ok (.invokevirtual 34, 3) := by decide +kernel
theorem dL_act_146 : decode cL_act 146 = .ok (.ireturn, 1) := by decide +kernel
theorem dL_act_147 : decode cL_act 147 = .ok (.aload_n 0, 1) := by decide +kernel
theorem dL_act_148 : decode cL_act 148 = .ok (.invokevirtual 37, 3) := by decide +kernel
theorem dL_act_151 : decode cL_act 151 = .ok (.ireturn, 1) := by decide +kernel
theorem dL_act_152 : decode cL_act 152 = .ok (.aload_n 0, 1) := by decide +kernel
theorem dL_act_153 : decode cL_act 153 = .ok (.iload_n 2, 1) := by decide +kernel
theorem dL_act_154 : decode cL_act 154 = .ok (.bipush 9, 2) := by decide +kernel
theorem dL_act_156 : decode cL_act 156 = .ok (.invokestatic 15, 3) := by decide +kernel
theorem dL_act_159 : decode cL_act 159 = .ok (.invokevirtual 41, 3) := by decide +kernel
theorem dL_act_162 : decode cL_act 162 = .ok (.ireturn, 1) := by decide +kernel
theorem dL_act_163 : decode cL_act 163 = .ok (.aload_n 0, 1) := by decide +kernel
theorem dL_act_164 : decode cL_act 164 = .ok (.iconst 1, 1) := by decide +kernel
theorem dL_act_165 : decode cL_act 165 = .ok (.iload_n 2, 1) := by decide +kernel
theorem dL_act_166 : decode cL_act 166 = .ok (.bipush 60, 2) := by decide +kernel
theorem dL_act_168 : decode cL_act 168 = .ok (.invokestatic 15, 3) := by decide +kernel
theorem dL_act_171 : decode cL_act 171 = .ok (.iadd, 1) := by decide +kernel
theorem dL_act_172 : decode cL_act 172 = .ok (.iload_n 3, 1) := by decide +kernel
theorem dL_act_173 : decode cL_act 173 = .ok (.iconst 3, 1) := by decide +kernel
theorem dL_act_174 : decode cL_act 174 = .ok (.invokestatic 15, 3) := by decide +kernel
theorem dL_act_177 : decode cL_act 177 = .ok (.invokestatic 44, 3) := by decide +kernel
theorem dL_act_180 : decode cL_act 180 = .ok (.ireturn, 1) := by decide +kernel
set_option maxRecDepth 20000 in
theorem ggL_gust_X3_count_0 : GoodIn wsL_gust [.code yX3_count cX3_count 2 (some .int)] := goodIn_r _ [6] (by decide +kernel) (by decide +kernel)
set_option maxRecDepth 20000 in
theorem ggL_gust_X3_count_1 : GoodIn wsL_gust wsX3_count_r1 := goodIn_r _ [7, 8, 9, 10, 11, 12, 13, 14, 15, 16, 17, 18, 19, 20, 21, 22, 23, 24, 25, 26, 27, 28, 29, 30] (by decide +kernel) (by decide +kernel)
set_option maxRecDepth 20000 in
theorem ggL_gust_X3_count_2 : GoodIn wsL_gust wsX3_count_r2 := goodIn_r _ [31, 32, 33, 34, 35, 36, 37, 38, 39, 40, 41, 42, 43, 44, 45, 46, 47, 48, 49, 50, 51, 52, 53, 54] (by decide +kernel) (by decide +kernel)
set_option maxRecDepth 20000 in
theorem ggL_gust_X3_count_3 : GoodIn wsL_gust wsX3_count_r3 := goodIn_r _ [55, 56, 57, 58, 5, 59] (by decide +kernel) (by decide +kernel)
set_option maxRecDepth 20000 in
theorem ggL_gust_X3_count_4 : GoodIn wsL_gust wsX30 := goodIn_r _ [168, 169, 170, 171, 172, 173, 174] (by decide +kernel) (by decide +kernel)
set_option maxRecDepth 20000 in
theorem ggL_gust_X3_count_5 : GoodIn wsL_gust wsX10 := goodIn_r _ [175, 176, 177, 178, 179, 180, 181, 182, 183, 184, 185, 186, 187, 188, 189, 190, 191] (by decide +kernel) (by decide +kernel)
set_option maxRecDepth 20000 in
theorem ggL_gust_X3_count_6 : GoodIn wsL_gust wsX00 := goodIn_r _ [192, 193] (by decide +kernel) (by decide +kernel)
set_option maxRecDepth 20000 in
theorem ggL_gust_X3_count_7 : GoodIn wsL_gust wsX20 := goodIn_r _ [194, 195, 196, 197, 198, 199, 200] (by decide +kernel) (by decide +kernel)
theorem ggL_gust_X3_count : GoodIn wsL_gust wsX3_count := fun w h => (List.mem_cons.mp h).elim (fun z => ggL_gust_X3_count_0 w (List.mem_singleton.mpr z)) (fun z => (List.forall_mem_append.mpr ⟨List.forall_mem_append.mpr ⟨List.forall_mem_append.mpr ⟨List.forall_mem_append.mpr ⟨List.forall_mem_append.mpr ⟨ggL_gust_X3_count_1, List.forall_mem_append.mpr ⟨ggL_gust_X3_count_2, ggL_gust_X3_count_3⟩⟩, ggL_gust_X3_count_4⟩, ggL_gust_X3_count_5⟩, ggL_gust_X3_count_6⟩, ggL_gust_X3_count_7⟩) w z)
set_option maxRecDepth 20000 in
theorem gL_gust_X3_count : GoodIn wsL_gust (wsV RL 9 RX3 yX3_count wsX3_count) := goodIn_app (goodIn_of _ (by decide +kernel)) ggL_gust_X3_count
set_option maxRecDepth 20000 in
theorem ggL_gust_X3_ifGust_0 : GoodIn wsL_gust [.code yX3_ifGust cX3_ifGust 5 (some .int)] := goodIn_r _ [63] (by decide +kernel) (by decide +kernel)
set_option maxRecDepth 20000 in
theorem ggL_gust_X3_ifGust_1 : GoodIn wsL_gust wsX3_ifGust_r1 := goodIn_r _ [7, 64, 65, 66, 67, 26, 68, 28, 69, 70, 5, 71, 72, 58, 59, 73, 74, 75, 76, 42, 43, 44, 45, 46] (by decide +kernel) (by decide +kernel)
set_option maxRecDepth 20000 in
theorem ggL_gust_X3_ifGust_2 : GoodIn wsL_gust wsX3_ifGust_r2 := goodIn_r _ [47, 48, 49, 50, 51, 52, 53, 54, 55, 56, 57, 77, 78, 79, 80, 81, 82, 83, 84, 29, 85, 86, 87, 88] (by decide +kernel) (by decide +kernel)
set_option maxRecDepth 20000 in
theorem ggL_gust_X3_ifGust_3 : GoodIn wsL_gust wsX3_ifGust_r3 := goodIn_r _ [89, 90] (by decide +kernel) (by decide +kernel)
set_option maxRecDepth 20000 in
theorem ggL_gust_X3_ifGust_4 : GoodIn wsL_gust wsX30 := goodIn_r _ [168, 169, 170, 171, 172, 173, 174] (by decide +kernel) (by decide +kernel)
set_option maxRecDepth 20000 in
theorem ggL_gust_X3_ifGust_5 : GoodIn wsL_gust wsX10 := goodIn_r _ [175, 176, 177, 178, 179, 180, 181, 182, 183, 184, 185, 186, 187, 188, 189, 190, 191] (by decide +kernel) (by decide +kernel)
theorem ggL_gust_X3_ifGust : GoodIn wsL_gust wsX3_ifGust := fun w h => (List.mem_cons.mp h).elim (fun z => ggL_gust_X3_ifGust_0 w (List.mem_singleton.mpr z)) (fun z => (List.forall_mem_append.mpr ⟨List.forall_mem_append.mpr ⟨List.forall_mem_append.mpr ⟨ggL_gust_X3_ifGust_1, List.forall_mem_append.mpr ⟨ggL_gust_X3_ifGust_2, ggL_gust_X3_ifGust_3⟩⟩, ggL_gust_X3_ifGust_4⟩, ggL_gust_X3_ifGust_5⟩) w z)
set_option maxRecDepth 20000 in
theorem gL_gust_X3_ifGust : GoodIn wsL_gust (wsV RL 48 RX3 yX3_ifGust wsX3_ifGust) := goodIn_app (goodIn_of _ (by decide +kernel)) ggL_gust_X3_ifGust
set_option maxRecDepth 20000 in
theorem ggL_gust_X3_person_0 : GoodIn wsL_gust [.code yX3_person cX3_person 3 (some .int)] := goodIn_r _ [94] (by decide +kernel) (by decide +kernel)
set_option maxRecDepth 20000 in
theorem ggL_gust_X3_person_1 : GoodIn wsL_gust wsX3_person_r1 := goodIn_r _ [7, 95, 96, 64, 97, 98, 99, 65, 66, 67, 26, 68, 28, 100, 44, 45, 46, 42, 47, 48, 49, 50, 101, 52] (by decide +kernel) (by decide +kernel)
set_option maxRecDepth 20000 in
theorem ggL_gust_X3_person_2 : GoodIn wsL_gust wsX3_person_r2 := goodIn_r _ [53, 54, 55, 56, 57, 102, 39, 40, 41, 43, 51, 58, 5, 59] (by decide +kernel) (by decide +kernel)
set_option maxRecDepth 20000 in
theorem ggL_gust_X3_person_3 : GoodIn wsL_gust wsX30 := goodIn_r _ [168, 169, 170, 171, 172, 173, 174] (by decide +kernel) (by decide +kernel)
set_option maxRecDepth 20000 in
theorem ggL_gust_X3_person_4 : GoodIn wsL_gust wsX10 := goodIn_r _ [175, 176, 177, 178, 179, 180, 181, 182, 183, 184, 185, 186, 187, 188, 189, 190, 191] (by decide +kernel) (by decide +kernel)
theorem ggL_gust_X3_person : GoodIn wsL_gust wsX3_person := fun w h => (List.mem_cons.mp h).elim (fun z => ggL_gust_X3_person_0 w (List.mem_singleton.mpr z)) (fun z => (List.forall_mem_append.mpr ⟨List.forall_mem_append.mpr ⟨List.forall_mem_append.mpr ⟨ggL_gust_X3_person_1, ggL_gust_X3_person_2⟩, ggL_gust_X3_person_3⟩, ggL_gust_X3_person_4⟩) w z)
set_option maxRecDepth 20000 in
theorem gL_gust_X3_person : GoodIn wsL_gust (wsV RL 52 RX3 yX3_person wsX3_person) := goodIn_app (goodIn_of _ (by decide +kernel)) ggL_gust_X3_person
set_option maxRecDepth 20000 in
theorem ggL_gust_X3_gust_0 : GoodIn wsL_gust [.code yX3_gust cX3_gust 3 (some .int)] := goodIn_r _ [106] (by decide +kernel) (by decide +kernel)
set_option maxRecDepth 20000 in
theorem ggL_gust_X3_gust_1 : GoodIn wsL_gust wsX3_gust_r1 := goodIn_r _ [19, 7, 107, 108, 109, 110, 111, 112, 113, 114, 115, 116, 117, 118, 119, 120, 26, 121, 122, 123, 124, 125, 126, 29] (by decide +kernel) (by decide +kernel)
set_option maxRecDepth 20000 in
theorem ggL_gust_X3_gust_2 : GoodIn wsL_gust wsX3_gust_r2 := goodIn_r _ [127, 128, 42, 129, 130, 28, 131, 132, 133, 134, 135, 136, 137, 138, 139, 140, 141, 142, 143, 70, 5, 71, 72, 58] (by decide +kernel) (by decide +kernel)
set_option maxRecDepth 20000 in
theorem ggL_gust_X3_gust_3 : GoodIn wsL_gust wsX3_gust_r3 := goodIn_r _ [59, 144, 82, 83, 84, 55, 56, 49, 57, 85, 86, 87, 88, 89, 78, 79, 80, 43, 44, 45, 46, 47, 48, 50] (by decide +kernel) (by decide +kernel)
set_option maxRecDepth 20000 in
theorem ggL_gust_X3_gust_4 : GoodIn wsL_gust wsX3_gust_r4 := goodIn_r _ [51, 52, 53, 54, 90, 74, 75, 76, 145, 146, 147, 148, 149, 150, 151, 152, 153, 154, 155, 156, 157, 158, 159, 160] (by decide +kernel) (by decide +kernel)
set_option maxRecDepth 20000 in
theorem ggL_gust_X3_gust_5 : GoodIn wsL_gust wsX3_gust_r5 := goodIn_r _ [161, 162, 163] (by decide +kernel) (by decide +kernel)
set_option maxRecDepth 20000 in
theorem ggL_gust_X3_gust_6 : GoodIn wsL_gust wsX30 := goodIn_r _ [168, 169, 170, 171, 172, 173, 174] (by decide +kernel) (by decide +kernel)
set_option maxRecDepth 20000 in
theorem ggL_gust_X3_gust_7 : GoodIn wsL_gust wsX00 := goodIn_r _ [192, 193] (by decide +kernel) (by decide +kernel)
set_option maxRecDepth 20000 in
theorem ggL_gust_X3_gust_8 : GoodIn wsL_gust wsX10 := goodIn_r _ [175, 176, 177, 178, 179, 180, 181, 182, 183, 184, 185, 186, 187, 188, 189, 190, 191] (by decide +kernel) (by decide +kernel)
theorem ggL_gust_X3_gust : GoodIn wsL_gust wsX3_gust := fun w h => (List.mem_cons.mp h).elim (fun z => ggL_gust_X3_gust_0 w (List.mem_singleton.mpr z)) (fun z => (List.forall_mem_append.mpr ⟨List.forall_mem_append.mpr ⟨List.forall_mem_append.mpr ⟨List.forall_mem_append.mpr ⟨ggL_gust_X3_gust_1, List.forall_mem_append.mpr ⟨ggL_gust_X3_gust_2, List.forall_mem_append.mpr ⟨ggL_gust_X3_gust_3, List.forall_mem_append.mpr ⟨ggL_gust_X3_gust_4, ggL_gust_X3_gust_5⟩⟩⟩⟩, ggL_gust_X3_gust_6⟩, ggL_gust_X3_gust_7⟩, ggL_gust_X3_gust_8⟩) w z)
set_option maxRecDepth 20000 in
theorem gL_gust_X3_gust : GoodIn wsL_gust (wsV RL 55 RX3 yX3_gust wsX3_gust) := goodIn_app (goodIn_of _ (by decide +kernel)) ggL_gust_X3_gust
set_option maxRecDepth 20000 in
theorem ggL_gust_X3_placeOf : GoodIn wsL_gust wsX3_placeOf := goodIn_r _ [167, 7, 8, 95, 72, 58, 5, 59, 168, 169, 170, 171, 172, 173, 174, 175, 176, 177, 178, 179, 180, 181, 182, 183, 184, 185, 186, 187, 188, 189, 190, 191] (by decide +kernel) (by decide +kernel)
set_option maxRecDepth 20000 in
theorem gL_gust_X3_placeOf : GoodIn wsL_gust (wsV RL 57 RX3 yX3_placeOf wsX3_placeOf) := goodIn_app (goodIn_of _ (by decide +kernel)) ggL_gust_X3_placeOf
theorem dL_gust_0 : decode cL_gust 0 = .ok (.aload_n 0, 1) := by decide +kernel
theorem dL_gust_1 : decode cL_gust 1 = .ok (.iconst 0, 1) := by decide +kernel
theorem dL_gust_2 : decode cL_gust 2 = .ok (.invokevirtual 9, 3) := by decide +kernel
theorem dL_gust_5 : decode cL_gust 5 = .ok (.istore_n 3, 1) := by decide +kernel
theorem dL_gust_6 : decode cL_gust 6 = .ok (.bipush 16, 2) := by decide +kernel
theorem dL_gust_8 : decode cL_gust 8 = .ok (.newarray .int, 2) := by decide +kernel
theorem dL_gust_10 : decode cL_gust 10 = .ok (.astore 4, 2) := by decide +kernel
theorem dL_gust_12 : decode cL_gust 12 = .ok (.bipush 16, 2) := by decide +kernel
theorem dL_gust_14 : decode cL_gust 14 = .ok (.newarray .int, 2) := by decide +kernel
theorem dL_gust_16 : decode cL_gust 16 = .ok (.astore 5, 2) := by decide +kernel
theorem dL_gust_18 : decode cL_gust 18 = .ok (.iconst 0, 1) := by decide +kernel
theorem dL_gust_19 : decode cL_gust 19 = .ok (.istore 6, 2) := by decide +kernel
theorem dL_gust_21 : decode cL_gust 21 = .ok (.iconst 0, 1) := by decide +kernel
theorem dL_gust_22 : decode cL_gust 22 = .ok (.istore 7, 2) := by decide +kernel
theorem dL_gust_24 : decode cL_gust 24 = .ok (.iload 7, 2) := by decide +kernel
theorem dL_gust_26 : decode cL_gust 26 = .ok (.iload_n 3, 1) := by decide +kernel
theorem dL_gust_27 : decode cL_gust 27 = .ok (.if_icmp .ge 49, 3) := by decide +kernel
theorem dL_gust_30 : decode cL_gust 30 = .ok (.aload 4, 2) := by decide +kernel
theorem dL_gust_32 : decode cL_gust 32 = .ok (.iload 7, 2) := by decide +kernel
theorem dL_gust_34 : decode cL_gust 34 = .ok (.aload_n 0, 1) := by decide +kernel
theorem dL_gust_35 : decode cL_gust 35 = .ok (.iload 7, 2) := by decide +kernel
theorem dL_gust_37 : decode cL_gust 37 = .ok (.iload_n 1, 1) := by decide +kernel
theorem dL_gust_38 : decode cL_gust 38 = .ok (.iload_n 2, 1) := by decide +kernel
theorem dL_gust_39 : decode cL_gust 39 = .ok (.iconst 2, 1) := by decide +kernel
theorem dL_gust_40 : decode cL_gust 40 = .ok (.invokevirtual 48, 3) := by decide +kernel
theorem dL_gust_43 : decode cL_gust 43 = .ok (.iastore, 1) := by decide +kernel
theorem dL_gust_44 : decode cL_gust 44 = .ok (.aload 5, 2) := by decide +kernel
theorem dL_gust_46 : decode cL_gust 46 = .ok (.iload 7, 2) := by decide +kernel
theorem dL_gust_48 : decode cL_gust 48 = .ok (.aload_n 0, 1) := by decide +kernel
theorem dL_gust_49 : decode cL_gust 49 = .ok (.iload 7, 2) := by decide +kernel
theorem dL_gust_51 : decode cL_gust 51 = .ok (.iconst 0, 1) := by decide +kernel
theorem dL_gust_52 : decode cL_gust 52 = .ok (.invokevirtual 52, 3) := by decide +kernel
theorem dL_gust_55 : decode cL_gust 55 = .ok (.iastore, 1) := by decide +kernel
theorem dL_gust_56 : decode cL_gust 56 = .ok (.iload 6, 2) := by decide +kernel
theorem dL_gust_58 : decode cL_gust 58 = .ok (.aload_n 0, 1) := by decide +kernel
theorem dL_gust_59 : decode cL_gust 59 = .ok (.iload 7, 2) := by decide +kernel
theorem dL_gust_61 : decode cL_gust 61 = .ok (.iload_n 1, 1) := by decide +kernel
theorem dL_gust_62 : decode cL_gust 62 = .ok (.iload_n 2, 1) := by decide +kernel
theorem dL_gust_63 : decode cL_gust 63 = .ok (.iconst 3, 1) := by decide +kernel
theorem dL_gust_64 : decode cL_gust 64 = .ok (.invokevirtual 48, 3) := by decide +kernel
theorem dL_gust_67 : decode cL_gust 67 = .ok (.iadd, 1) := by decide +kernel
theorem dL_gust_68 : decode cL_gust 68 = .ok (.istore 6, 2) := by decide +kernel
theorem dL_gust_70 : decode cL_gust 70 = .ok (.iinc 7 1, 3) := by decide +kernel
theorem dL_gust_73 : decode cL_gust 73 = .ok (.goto (-49), 3) := by decide +kernel
theorem dL_gust_76 : decode cL_gust 76 = .ok (.aload_n 0, 1) := by decide +kernel
theorem dL_gust_77 : decode cL_gust 77 = .ok (.iconst 3, 1) := by decide +kernel
theorem dL_gust_78 : decode cL_gust 78 = .ok (.invokevirtual 9, 3) := by decide +kernel
theorem dL_gust_81 : decode cL_gust 81 = .ok (.istore 7, 2) := by decide +kernel
theorem dL_gust_83 : decode cL_gust 83 = .ok (.aload_n 0, 1) := by decide +kernel
theorem dL_gust_84 : decode cL_gust 84 = .ok (.iload_n 1, 1) := by decide +kernel
theorem dL_gust_85 : decode cL_gust 85 = .ok (.iload_n 2, 1) := by decide +kernel
theorem dL_gust_86 : decode cL_gust 86 = .ok (.invokevirtual 55, 3) := by decide +kernel
theorem dL_gust_89 : decode cL_gust 89 = .ok (.istore 8, 2) := by decide +kernel
theorem dL_gust_91 : decode cL_gust 91 = .ok (.iload_n 3, 1) := by decide +kernel
theorem dL_gust_92 : decode cL_gust 92 = .ok (.ifCond .ne 18, 3) := by decide +kernel
theorem dL_gust_95 : decode cL_gust 95 = .ok (.iload 8, 2) := by decide +kernel
theorem dL_gust_97 : decode cL_gust 97 = .ok (.bipush (-5), 2) := by decide +kernel
theorem dL_gust_99 : decode cL_gust 99 = .ok (.if_icmp .ne 7, 3) := by decide +kernel
theorem dL_gust_102 : decode cL_gust 102 = .ok (.iconst 1, 1) := by decide +kernel
theorem dL_gust_103 : decode cL_gust 103 = .ok (.goto 44, 3) := by decide +kernel
theorem dL_gust_106 : decode cL_gust 106 = .ok (.iconst 0, 1) := by decide +kernel
theorem dL_gust_107 : decode cL_gust 107 = .ok (.goto 40, 3) := by decide +kernel
theorem dL_gust_110 : decode cL_gust 110 = .ok (.iload 8, 2) := by decide +kernel
theorem dL_gust_112 : decode cL_gust 112 = .ok (.iload 6, 2) := by decide +kernel
theorem dL_gust_114 : decode cL_gust 114 = .ok (.if_icmp .ne 32, 3) := by decide +kernel
theorem dL_gust_117 : decode cL_gust 117 = .ok (.aload_n 0, 1) := by decide +kernel
theorem dL_gust_118 : decode cL_gust 118 = .ok (.iconst 3, 1) := by decide +kernel
theorem dL_gust_119 : decode cL_gust 119 = .ok (.invokevirtual 9, 3) := by decide +kernel
theorem dL_gust_122 : decode cL_gust 122 = .ok (.iload 7, 2) := by decide +kernel
theorem dL_gust_124 : decode cL_gust 124 = .ok (.iload 6, 2) := by decide +kernel
theorem dL_gust_126 : decode cL_gust 126 = .ok (.iadd, 1) := by decide +kernel
theorem dL_gust_127 : decode cL_gust 127 = .ok (.if_icmp .ne 19, 3) := by decide +kernel
theorem dL_gust_130 : decode cL_gust 130 = .ok (.aload_n 0, 1) := by decide +kernel
theorem dL_gust_131 : decode cL_gust 131 = .ok (.iconst 0, 1) := by decide +kernel
theorem dL_gust_132 : decode cL_gust 132 = .ok (.invokevirtual 9, 3) := by decide +kernel
theorem dL_gust_135 : decode cL_gust 135 = .ok (.iload_n 3, 1) := by decide +kernel
theorem dL_gust_136 : decode cL_gust 136 = .ok (.iload 6, 2) := by decide +kernel
theorem dL_gust_138 : decode cL_gust 138 = .ok (.isub, 1) := by decide +kernel
theorem dL_gust_139 : decode cL_gust 139 = .ok (.if_icmp .ne 7, 3) := by decide +kernel
theorem dL_gust_142 : decode cL_gust 142 = .ok (.iconst 1, 1) := by decide +kernel
theorem dL_gust_143 : decode cL_gust 143 = .ok (.goto 4, 3) := by decide +kernel
theorem dL_gust_146 : decode cL_gust 146 = .ok (.iconst 0, 1) := by decide +kernel
theorem dL_gust_147 : decode cL_gust 147 = .ok (.istore 9, 2) := by decide +kernel
theorem dL_gust_149 : decode cL_gust 149 = .ok (.iconst 0, 1) := by decide +kernel
theorem dL_gust_150 : decode cL_gust 150 = .ok (.istore 10, 2) := by decide +kernel
theorem dL_gust_152 : decode cL_gust 152 = .ok (.iload 10, 2) := by decide +kernel
theorem dL_gust_154 : decode cL_gust 154 = .ok (.iload_n 3, 1) := by decide +kernel
theorem dL_gust_155 : decode cL_gust 155 = .ok (.if_icmp .ge 69, 3) := by decide +kernel
theorem dL_gust_158 : decode cL_gust 158 = .ok (.iload 9, 2) := by decide +kernel
theorem dL_gust_160 : decode cL_gust 160 = .ok (.ifCond .eq 64, 3) := by decide +kernel
theorem dL_gust_163 : decode cL_gust 163 = .ok (.aload_n 0, 1) := by decide +kernel
theorem dL_gust_164 : decode cL_gust 164 = .ok (.aload 5, 2) := by decide +kernel
theorem dL_gust_166 : decode cL_gust 166 = .ok (.iload 10, 2) := by decide +kernel
theorem dL_gust_168 : decode cL_gust 168 = .ok (.iaload, 1) := by decide +kernel
theorem dL_gust_169 : decode cL_gust 169 = .ok (.invokevirtual 57, 3) := by decide +kernel
theorem dL_gust_172 : decode cL_gust 172 = .ok (.istore 11, 2) := by decide +kernel
theorem dL_gust_174 : decode cL_gust 174 = .ok (.iload 11, 2) := by decide +kernel
theorem dL_gust_176 : decode cL_gust 176 = .ok (.bipush (-5), 2) := by decide +kernel
theorem dL_gust_178 : decode cL_gust 178 = .ok (.if_icmp .eq 33, 3) := by decide +kernel
theorem dL_gust_181 : decode cL_gust 181 = .ok (.aload_n 0, 1) := by decide +kernel
theorem dL_gust_182 : decode cL_gust 182 = .ok (.iload 11, 2) := by decide +kernel
theorem dL_gust_184 : decode cL_gust 184 = .ok (.iconst 1, 1) := by decide +kernel
theorem dL_gust_185 : decode cL_gust 185 = .ok (.invokevirtual 52, 3) := by decide +kernel
theorem dL_gust_188 : decode cL_gust 188 = .ok (.aload 4, 2) := by decide +kernel
theorem dL_gust_190 : decode cL_gust 190 = .ok (.iload 10, 2) := by decide +kernel
theorem dL_gust_192 : decode cL_gust 192 = .ok (.iaload, 1) := by decide +kernel
theorem dL_gust_193 : decode cL_gust 193 = .ok (.if_icmp .ne 22, 3) := by decide +kernel
theorem dL_gust_196 : decode cL_gust 196 = .ok (.aload 4, 2) := by decide +kernel
theorem dL_gust_198 : decode cL_gust 198 = .ok (.iload 10, 2) := by decide +kernel
theorem dL_gust_200 : decode cL_gust 200 = .ok (.iaload, 1) := by decide +kernel
theorem dL_gust_201 : decode cL_gust 201 = .ok (.aload_n 0, 1) := by decide +kernel
theorem dL_gust_202 : decode cL_gust 202 = .ok (.iload 11, 2) := by decide +kernel
theorem dL_gust_204 : decode cL_gust 204 = .ok (.iconst 2, 1) := by decide +kernel
theorem dL_gust_205 : decode cL_gust 205 = .ok (.invokevirtual 52, 3) := by decide +kernel
theorem dL_gust_208 : decode cL_gust 208 = .ok (.if_icmp .gt 7, 3) := by decide +kernel
theorem dL_gust_211 : decode cL_gust 211 = .ok (.iconst 1, 1) := by decide +kernel
theorem dL_gust_212 : decode cL_gust 212 = .ok (.goto 4, 3) := by decide +kernel
theorem dL_gust_215 : decode cL_gust 215 = .ok (.iconst 0, 1) := by decide +kernel
theorem dL_gust_216 : decode cL_gust 216 = .ok (.istore 9, 2) := by decide +kernel
theorem dL_gust_218 : decode cL_gust 218 = .ok (.iinc 10 1, 3) := by decide +kernel
theorem dL_gust_221 : decode cL_gust 221 = .ok (.goto (-69), 3) := by decide +kernel
theorem dL_gust_224 : decode cL_gust 224 = .ok (.iload 9, 2) := by decide +kernel
theorem dL_gust_226 : decode cL_gust 226 = .ok (.ifCond .eq 8, 3) := by decide +kernel
theorem dL_gust_229 : decode cL_gust 229 = .ok (.iload 8, 2) := by decide +kernel
theorem dL_gust_231 : decode cL_gust 231 = .ok (.goto 5, 3) := by decide +kernel
theorem dL_gust_234 : decode cL_gust 234 = .ok (.bipush (-100), 2) := by decide +kernel
theorem dL_gust_236 : decode cL_gust 236 = .ok (.ireturn, 1) := by decide +kernel
set_option maxRecDepth 20000 in
theorem ggL_reaches_X3_person_0 : GoodIn wsL_reaches [.code yX3_person cX3_person 3 (some .int)] := goodIn_r _ [5] (by decide +kernel) (by decide +kernel)
set_option maxRecDepth 20000 in
theorem ggL_reaches_X3_person_1 : GoodIn wsL_reaches wsX3_person_r1 := goodIn_r _ [6, 7, 8, 9, 10, 11, 12, 13, 14, 15, 16, 17, 18, 19, 20, 21, 22, 23, 24, 25, 26, 27, 28, 29] (by decide +kernel) (by decide +kernel)
set_option maxRecDepth 20000 in
theorem ggL_reaches_X3_person_2 : GoodIn wsL_reaches wsX3_person_r2 := goodIn_r _ [30, 31, 32, 33, 34, 35, 36, 37, 38, 39, 40, 41, 4, 42] (by decide +kernel) (by decide +kernel)
set_option maxRecDepth 20000 in
theorem ggL_reaches_X3_person_3 : GoodIn wsL_reaches wsX30 := goodIn_r _ [76, 77, 78, 79, 80, 81, 82] (by decide +kernel) (by decide +kernel)
set_option maxRecDepth 20000 in
theorem ggL_reaches_X3_person_4 : GoodIn wsL_reaches wsX10 := goodIn_r _ [83, 84, 85, 86, 87, 88, 89, 90, 91, 92, 93, 94, 95, 96, 97, 98, 99] (by decide +kernel) (by decide +kernel)
theorem ggL_reaches_X3_person : GoodIn wsL_reaches wsX3_person := fun w h => (List.mem_cons.mp h).elim (fun z => ggL_reaches_X3_person_0 w (List.mem_singleton.mpr z)) (fun z => (List.forall_mem_append.mpr ⟨List.forall_mem_append.mpr ⟨List.forall_mem_append.mpr ⟨ggL_reaches_X3_person_1, ggL_reaches_X3_person_2⟩, ggL_reaches_X3_person_3⟩, ggL_reaches_X3_person_4⟩) w z)
set_option maxRecDepth 20000 in
theorem gL_reaches_X3_person : GoodIn wsL_reaches (wsV RL 52 RX3 yX3_person wsX3_person) := goodIn_app (goodIn_of _ (by decide +kernel)) ggL_reaches_X3_person
set_option maxRecDepth 20000 in
theorem ggL_reaches_X3_count_0 : GoodIn wsL_reaches [.code yX3_count cX3_count 2 (some .int)] := goodIn_r _ [46] (by decide +kernel) (by decide +kernel)
set_option maxRecDepth 20000 in
theorem ggL_reaches_X3_count_1 : GoodIn wsL_reaches wsX3_count_r1 := goodIn_r _ [6, 47, 48, 49, 50, 51, 52, 53, 54, 55, 56, 57, 58, 59, 60, 61, 62, 63, 64, 16, 65, 18, 66, 67] (by decide +kernel) (by decide +kernel)
set_option maxRecDepth 20000 in
theorem ggL_reaches_X3_count_2 : GoodIn wsL_reaches wsX3_count_r2 := goodIn_r _ [68, 69, 70, 71, 72, 73, 74, 75, 36, 37, 38, 23, 39, 20, 21, 22, 24, 25, 26, 27, 40, 29, 30, 31] (by decide +kernel) (by decide +kernel)
set_option maxRecDepth 20000 in
theorem ggL_reaches_X3_count_3 : GoodIn wsL_reaches wsX3_count_r3 := goodIn_r _ [32, 33, 34, 41, 4, 42] (by decide +kernel) (by decide +kernel)
set_option maxRecDepth 20000 in
theorem ggL_reaches_X3_count_4 : GoodIn wsL_reaches wsX30 := goodIn_r _ [76, 77, 78, 79, 80, 81, 82] (by decide +kernel) (by decide +kernel)
set_option maxRecDepth 20000 in
theorem ggL_reaches_X3_count_5 : GoodIn wsL_reaches wsX10 := goodIn_r _ [83, 84, 85, 86, 87, 88, 89, 90, 91, 92, 93, 94, 95, 96, 97, 98, 99] (by decide +kernel) (by decide +kernel)
set_option maxRecDepth 20000 in
theorem ggL_reaches_X3_count_6 : GoodIn wsL_reaches wsX00 := goodIn_r _ [100, 101] (by decide +kernel) (by decide +kernel)
set_option maxRecDepth 20000 in
theorem ggL_reaches_X3_count_7 : GoodIn wsL_reaches wsX20 := goodIn_r _ [102, 103, 104, 105, 106, 107, 108] (by decide +kernel) (by decide +kernel)
theorem ggL_reaches_X3_count : GoodIn wsL_reaches wsX3_count := fun w h => (List.mem_cons.mp h).elim (fun z => ggL_reaches_X3_count_0 w (List.mem_singleton.mpr z)) (fun z => (List.forall_mem_append.mpr ⟨List.forall_mem_append.mpr ⟨List.forall_mem_append.mpr ⟨List.forall_mem_append.mpr ⟨List.forall_mem_append.mpr ⟨ggL_reaches_X3_count_1, List.forall_mem_append.mpr ⟨ggL_reaches_X3_count_2, ggL_reaches_X3_count_3⟩⟩, ggL_reaches_X3_count_4⟩, ggL_reaches_X3_count_5⟩, ggL_reaches_X3_count_6⟩, ggL_reaches_X3_count_7⟩) w z)
set_option maxRecDepth 20000 in
theorem gL_reaches_X3_count : GoodIn wsL_reaches (wsV RL 9 RX3 yX3_count wsX3_count) := goodIn_app (goodIn_of _ (by decide +kernel)) ggL_reaches_X3_count
theorem dL_reaches_0 : decode cL_reaches 0 = .ok (.aload_n 0, 1) := by decide +kernel
theorem dL_reaches_1 : decode cL_reaches 1 = .ok (.iload_n 1, 1) := by decide +kernel
theorem dL_reaches_2 : decode cL_reaches 2 = .ok (.iconst 4, 1) := by decide +kernel
theorem dL_reaches_3 : decode cL_reaches 3 = .ok (.invokevirtual 52, 3) := by decide +kernel
theorem dL_reaches_6 : decode cL_reaches 6 = .ok (.istore_n 3, 1) := by decide +kernel
theorem dL_reaches_7 : decode cL_reaches 7 = .ok (.iload_n 3, 1) := by decide +kernel
theorem dL_reaches_8 : decode cL_reaches 8 = .ok (.ifCond .le 40, 3) := by decide +kernel
theorem dL_reaches_11 : decode cL_reaches 11 = .ok (.iload_n 2, 1) := by decide +kernel
theorem dL_reaches_12 : decode cL_reaches 12 = .ok (.ifCond .lt 36, 3) := by decide +kernel
theorem dL_reaches_15 : decode cL_reaches 15 = .ok (.iload_n 2, 1) := by decide +kernel
theorem dL_reaches_16 : decode cL_reaches 16 = .ok (.aload_n 0, 1) := by decide +kernel
theorem dL_reaches_17 : decode cL_reaches 17 = .ok (.iconst 0, 1) := by decide +kernel
theorem dL_reaches_18 : decode cL_reaches 18 = .ok (.invokevirtual 9, 3) := by decide +kernel
theorem dL_reaches_21 : decode cL_reaches 21 = .ok (.if_icmp .ge 27, 3) := by decide +kernel
theorem dL_reaches_24 : decode cL_reaches 24 = .ok (.iload_n 2, 1) := by decide +kernel
theorem dL_reaches_25 : decode cL_reaches 25 = .ok (.iload_n 1, 1) := by decide +kernel
theorem dL_reaches_26 : decode cL_reaches 26 = .ok (.iload_n 3, 1) := by decide +kernel
theorem dL_reaches_27 : decode cL_reaches 27 = .ok (.iconst 2, 1) := by decide +kernel
theorem dL_reaches_28 : decode cL_reaches 28 = .ok (.idiv, 1) := by decide +kernel
theorem dL_reaches_29 : decode cL_reaches 29 = .ok (.isub, 1) := by decide +kernel
theorem dL_reaches_30 : decode cL_reaches 30 = .ok (.if_icmp .lt 18, 3) := by decide +kernel
theorem dL_reaches_33 : decode cL_reaches 33 = .ok (.iload_n 2, 1) := by decide +kernel
theorem dL_reaches_34 : decode cL_reaches 34 = .ok (.iload_n 1, 1) := by decide +kernel
theorem dL_reaches_35 : decode cL_reaches 35 = .ok (.iload_n 3, 1) := by decide +kernel
theorem dL_reaches_36 : decode cL_reaches 36 = .ok (.iconst 1, 1) := by decide +kernel
theorem dL_reaches_37 : decode cL_reaches 37 = .ok (.isub, 1) := by decide +kernel
theorem dL_reaches_38 : decode cL_reaches 38 = .ok (.iconst 2, 1) := by decide +kernel
theorem dL_reaches_39 : decode cL_reaches 39 = .ok (.idiv, 1) := by decide +kernel
theorem dL_reaches_40 : decode cL_reaches 40 = .ok (.iadd, 1) := by decide +kernel
theorem dL_reaches_41 : decode cL_reaches 41 = .ok (.if_icmp .gt 7, 3) := by decide +kernel
theorem dL_reaches_44 : decode cL_reaches 44 = .ok (.iconst 1, 1) := by decide +kernel
theorem dL_reaches_45 : decode cL_reaches 45 = .ok (.goto 4, 3) := by decide +kernel
theorem dL_reaches_48 : decode cL_reaches 48 = .ok (.iconst 0, 1) := by decide +kernel
theorem dL_reaches_49 : decode cL_reaches 49 = .ok (.ireturn, 1) := by decide +kernel
set_option maxRecDepth 20000 in
theorem ggL_isGust_X3_count_0 : GoodIn wsL_isGust [.code yX3_count cX3_count 2 (some .int)] := goodIn_r _ [5] (by decide +kernel) (by decide +kernel)
set_option maxRecDepth 20000 in
theorem ggL_isGust_X3_count_1 : GoodIn wsL_isGust wsX3_count_r1 := goodIn_r _ [6, 7, 8, 9, 10, 11, 12, 13, 14, 15, 16, 17, 18, 19, 20, 21, 22, 23, 24, 25, 26, 27, 28, 29] (by decide +kernel) (by decide +kernel)
set_option maxRecDepth 20000 in
theorem ggL_isGust_X3_count_2 : GoodIn wsL_isGust wsX3_count_r2 := goodIn_r _ [30, 31, 32, 33, 34, 35, 36, 37, 38, 39, 40, 41, 42, 43, 44, 45, 46, 47, 48, 49, 50, 51, 52, 53] (by decide +kernel) (by decide +kernel)
set_option maxRecDepth 20000 in
theorem ggL_isGust_X3_count_3 : GoodIn wsL_isGust wsX3_count_r3 := goodIn_r _ [54, 55, 56, 57, 4, 58] (by decide +kernel) (by decide +kernel)
set_option maxRecDepth 20000 in
theorem ggL_isGust_X3_count_4 : GoodIn wsL_isGust wsX30 := goodIn_r _ [106, 107, 108, 109, 110, 111, 112] (by decide +kernel) (by decide +kernel)
set_option maxRecDepth 20000 in
theorem ggL_isGust_X3_count_5 : GoodIn wsL_isGust wsX10 := goodIn_r _ [113, 114, 115, 116, 117, 118, 119, 120, 121, 122, 123, 124, 125, 126, 127, 128, 129] (by decide +kernel) (by decide +kernel)
set_option maxRecDepth 20000 in
theorem ggL_isGust_X3_count_6 : GoodIn wsL_isGust wsX00 := goodIn_r _ [130, 131] (by decide +kernel) (by decide +kernel)
set_option maxRecDepth 20000 in
theorem ggL_isGust_X3_count_7 : GoodIn wsL_isGust wsX20 := goodIn_r _ [132, 133, 134, 135, 136, 137, 138] (by decide +kernel) (by decide +kernel)
theorem ggL_isGust_X3_count : GoodIn wsL_isGust wsX3_count := fun w h => (List.mem_cons.mp h).elim (fun z => ggL_isGust_X3_count_0 w (List.mem_singleton.mpr z)) (fun z => (List.forall_mem_append.mpr ⟨List.forall_mem_append.mpr ⟨List.forall_mem_append.mpr ⟨List.forall_mem_append.mpr ⟨List.forall_mem_append.mpr ⟨ggL_isGust_X3_count_1, List.forall_mem_append.mpr ⟨ggL_isGust_X3_count_2, ggL_isGust_X3_count_3⟩⟩, ggL_isGust_X3_count_4⟩, ggL_isGust_X3_count_5⟩, ggL_isGust_X3_count_6⟩, ggL_isGust_X3_count_7⟩) w z)
set_option maxRecDepth 20000 in
theorem gL_isGust_X3_count : GoodIn wsL_isGust (wsV RL 9 RX3 yX3_count wsX3_count) := goodIn_app (goodIn_of _ (by decide +kernel)) ggL_isGust_X3_count
set_option maxRecDepth 20000 in
theorem ggL_isGust_L_reaches_0 : GoodIn wsL_isGust [.code yL_reaches cL_reaches 4 (some .boolean)] := goodIn_r _ [62] (by decide +kernel) (by decide +kernel)
set_option maxRecDepth 20000 in
theorem ggL_isGust_L_reaches_1 : GoodIn wsL_isGust wsL_reaches_r1 := goodIn_r _ [63, 64, 65, 4, 66, 6, 67, 68, 69, 70, 71, 72, 73, 74, 75, 25, 76, 27, 77, 43, 44, 45, 41, 46] (by decide +kernel) (by decide +kernel)
set_option maxRecDepth 20000 in
theorem ggL_isGust_L_reaches_2 : GoodIn wsL_isGust wsL_reaches_r2 := goodIn_r _ [47, 48, 49, 78, 51, 52, 53, 54, 55, 56, 79, 38, 39, 40, 42, 50, 57, 58, 1, 2, 3, 5, 7, 8] (by decide +kernel) (by decide +kernel)
set_option maxRecDepth 20000 in
theorem ggL_isGust_L_reaches_3 : GoodIn wsL_isGust wsL_reaches_r3 := goodIn_r _ [9, 10, 11, 12, 13, 14, 15, 16, 17, 18, 19, 20, 21, 22, 23, 24, 26, 28, 29, 30, 31, 32, 33, 34] (by decide +kernel) (by decide +kernel)
set_option maxRecDepth 20000 in
theorem ggL_isGust_L_reaches_4 : GoodIn wsL_isGust wsL_reaches_r4 := goodIn_r _ [35, 36, 37] (by decide +kernel) (by decide +kernel)
set_option maxRecDepth 20000 in
theorem ggL_isGust_L_reaches_5 : GoodIn wsL_isGust wsX30 := goodIn_r _ [106, 107, 108, 109, 110, 111, 112] (by decide +kernel) (by decide +kernel)
set_option maxRecDepth 20000 in
theorem ggL_isGust_L_reaches_6 : GoodIn wsL_isGust wsX10 := goodIn_r _ [113, 114, 115, 116, 117, 118, 119, 120, 121, 122, 123, 124, 125, 126, 127, 128, 129] (by decide +kernel) (by decide +kernel)
set_option maxRecDepth 20000 in
theorem ggL_isGust_L_reaches_7 : GoodIn wsL_isGust wsX00 := goodIn_r _ [130, 131] (by decide +kernel) (by decide +kernel)
set_option maxRecDepth 20000 in
theorem ggL_isGust_L_reaches_8 : GoodIn wsL_isGust wsX20 := goodIn_r _ [132, 133, 134, 135, 136, 137, 138] (by decide +kernel) (by decide +kernel)
theorem ggL_isGust_L_reaches : GoodIn wsL_isGust wsL_reaches := fun w h => (List.mem_cons.mp h).elim (fun z => ggL_isGust_L_reaches_0 w (List.mem_singleton.mpr z)) (fun z => (List.forall_mem_append.mpr ⟨List.forall_mem_append.mpr ⟨List.forall_mem_append.mpr ⟨List.forall_mem_append.mpr ⟨List.forall_mem_append.mpr ⟨ggL_isGust_L_reaches_1, List.forall_mem_append.mpr ⟨ggL_isGust_L_reaches_2, List.forall_mem_append.mpr ⟨ggL_isGust_L_reaches_3, ggL_isGust_L_reaches_4⟩⟩⟩, ggL_isGust_L_reaches_5⟩, ggL_isGust_L_reaches_6⟩, ggL_isGust_L_reaches_7⟩, ggL_isGust_L_reaches_8⟩) w z)
set_option maxRecDepth 20000 in
theorem gL_isGust_L_reaches : GoodIn wsL_isGust (va_wsS RL 60 yL_reaches wsL_reaches) := goodIn_app (goodIn_of _ (by decide +kernel)) ggL_isGust_L_reaches
set_option maxRecDepth 20000 in
theorem ggL_isGust_X3_person_0 : GoodIn wsL_isGust [.code yX3_person cX3_person 3 (some .int)] := goodIn_r _ [66] (by decide +kernel) (by decide +kernel)
set_option maxRecDepth 20000 in
theorem ggL_isGust_X3_person_1 : GoodIn wsL_isGust wsX3_person_r1 := goodIn_r _ [6, 67, 68, 69, 70, 71, 72, 73, 74, 75, 25, 76, 27, 77, 43, 44, 45, 41, 46, 47, 48, 49, 78, 51] (by decide +kernel) (by decide +kernel)
set_option maxRecDepth 20000 in
theorem ggL_isGust_X3_person_2 : GoodIn wsL_isGust wsX3_person_r2 := goodIn_r _ [52, 53, 54, 55, 56, 79, 38, 39, 40, 42, 50, 57, 4, 58] (by decide +kernel) (by decide +kernel)
set_option maxRecDepth 20000 in
theorem ggL_isGust_X3_person_3 : GoodIn wsL_isGust wsX30 := goodIn_r _ [106, 107, 108, 109, 110, 111, 112] (by decide +kernel) (by decide +kernel)
set_option maxRecDepth 20000 in
theorem ggL_isGust_X3_person_4 : GoodIn wsL_isGust wsX10 := goodIn_r _ [113, 114, 115, 116, 117, 118, 119, 120, 121, 122, 123, 124, 125, 126, 127, 128, 129] (by decide +kernel) (by decide +kernel)
theorem ggL_isGust_X3_person : GoodIn wsL_isGust wsX3_person := fun w h => (List.mem_cons.mp h).elim (fun z => ggL_isGust_X3_person_0 w (List.mem_singleton.mpr z)) (fun z => (List.forall_mem_append.mpr ⟨List.forall_mem_append.mpr ⟨List.forall_mem_append.mpr ⟨ggL_isGust_X3_person_1, ggL_isGust_X3_person_2⟩, ggL_isGust_X3_person_3⟩, ggL_isGust_X3_person_4⟩) w z)
set_option maxRecDepth 20000 in
theorem gL_isGust_X3_person : GoodIn wsL_isGust (wsV RL 52 RX3 yX3_person wsX3_person) := goodIn_app (goodIn_of _ (by decide +kernel)) ggL_isGust_X3_person
set_option maxRecDepth 20000 in
theorem ggL_isGust_X3_ifGust_0 : GoodIn wsL_isGust [.code yX3_ifGust cX3_ifGust 5 (some .int)] := goodIn_r _ [83] (by decide +kernel) (by decide +kernel)
set_option maxRecDepth 20000 in
theorem ggL_isGust_X3_ifGust_1 : GoodIn wsL_isGust wsX3_ifGust_r1 := goodIn_r _ [6, 69, 73, 74, 75, 25, 76, 27, 84, 85, 4, 86, 87, 57, 58, 88, 89, 90, 91, 41, 42, 43, 44, 45] (by decide +kernel) (by decide +kernel)
set_option maxRecDepth 20000 in
theorem ggL_isGust_X3_ifGust_2 : GoodIn wsL_isGust wsX3_ifGust_r2 := goodIn_r _ [46, 47, 48, 49, 50, 51, 52, 53, 54, 55, 56, 92, 93, 94, 95, 96, 97, 98, 99, 28, 100, 101, 102, 103] (by decide +kernel) (by decide +kernel)
set_option maxRecDepth 20000 in
theorem ggL_isGust_X3_ifGust_3 : GoodIn wsL_isGust wsX3_ifGust_r3 := goodIn_r _ [104, 105] (by decide +kernel) (by decide +kernel)
set_option maxRecDepth 20000 in
theorem ggL_isGust_X3_ifGust_4 : GoodIn wsL_isGust wsX30 := goodIn_r _ [106, 107, 108, 109, 110, 111, 112] (by decide +kernel) (by decide +kernel)
set_option maxRecDepth 20000 in
theorem ggL_isGust_X3_ifGust_5 : GoodIn wsL_isGust wsX10 := goodIn_r _ [113, 114, 115, 116, 117, 118, 119, 120, 121, 122, 123, 124, 125, 126, 127, 128, 129] (by decide +kernel) (by decide +kernel)
theorem ggL_isGust_X3_ifGust : GoodIn wsL_isGust wsX3_ifGust := fun w h => (List.mem_cons.mp h).elim (fun z => ggL_isGust_X3_ifGust_0 w (List.mem_singleton.mpr z)) (fun z => (List.forall_mem_append.mpr ⟨List.forall_mem_append.mpr ⟨List.forall_mem_append.mpr ⟨ggL_isGust_X3_ifGust_1, List.forall_mem_append.mpr ⟨ggL_isGust_X3_ifGust_2, ggL_isGust_X3_ifGust_3⟩⟩, ggL_isGust_X3_ifGust_4⟩, ggL_isGust_X3_ifGust_5⟩) w z)
set_option maxRecDepth 20000 in
theorem gL_isGust_X3_ifGust : GoodIn wsL_isGust (wsV RL 48 RX3 yX3_ifGust wsX3_ifGust) := goodIn_app (goodIn_of _ (by decide +kernel)) ggL_isGust_X3_ifGust
theorem dL_isGust_0 : decode cL_isGust 0 = .ok (.iconst 0, 1) := by decide +kernel
theorem dL_isGust_1 : decode cL_isGust 1 = .ok (.istore 4, 2) := by decide +kernel
theorem dL_isGust_3 : decode cL_isGust 3 = .ok (.iconst 0, 1) := by decide +kernel
theorem dL_isGust_4 : decode cL_isGust 4 = .ok (.istore 5, 2) := by decide +kernel
theorem dL_isGust_6 : decode cL_isGust 6 = .ok (.iconst 0, 1) := by decide +kernel
theorem dL_isGust_7 : decode cL_isGust 7 = .ok (.istore 6, 2) := by decide +kernel
theorem dL_isGust_9 : decode cL_isGust 9 = .ok (.iload 6, 2) := by decide +kernel
theorem dL_isGust_11 : decode cL_isGust 11 = .ok (.aload_n 0, 1) := by decide +kernel
theorem dL_isGust_12 : decode cL_isGust 12 = .ok (.iconst 0, 1) := by decide +kernel
theorem dL_isGust_13 : decode cL_isGust 13 = .ok (.invokevirtual 9, 3) := by decide +kernel
theorem dL_isGust_16 : decode cL_isGust 16 = .ok (.if_icmp .ge 106, 3) := by decide +kernel
theorem dL_isGust_19 : decode cL_isGust 19 = .ok (.aload_n 0, 1) := by decide +kernel
theorem dL_isGust_20 : decode cL_isGust 20 = .ok (.iload 6, 2) := by decide +kernel
theorem dL_isGust_22 : decode cL_isGust 22 = .ok (.iload_n 1, 1) := by decide +kernel
theorem dL_isGust_23 : decode cL_isGust 23 = .ok (.invokestatic 60, 3) := by decide +kernel
theorem dL_isGust_26 : decode cL_isGust 26 = .ok (.istore 7, 2) := by decide +kernel
theorem dL_isGust_28 : decode cL_isGust 28 = .ok (.iload 4, 2) := by decide +kernel
theorem dL_isGust_30 : decode cL_isGust 30 = .ok (.iload 7, 2) := by decide +kernel
theorem dL_isGust_32 : decode cL_isGust 32 = .ok (.ifCond .ne 37, 3) := by decide +kernel
theorem dL_isGust_35 : decode cL_isGust 35 = .ok (.iload_n 3, 1) := by decide +kernel
theorem dL_isGust_36 : decode cL_isGust 36 = .ok (.iconst 1, 1) := by decide +kernel
theorem dL_isGust_37 : decode cL_isGust 37 = .ok (.if_icmp .ne 15, 3) := by decide +kernel
theorem dL_isGust_40 : decode cL_isGust 40 = .ok (.aload_n 0, 1) := by decide +kernel
theorem dL_isGust_41 : decode cL_isGust 41 = .ok (.iload 6, 2) := by decide +kernel
theorem dL_isGust_43 : decode cL_isGust 43 = .ok (.iload_n 1, 1) := by decide +kernel
theorem dL_isGust_44 : decode cL_isGust 44 = .ok (.iconst 1, 1) := by decide +kernel
theorem dL_isGust_45 : decode cL_isGust 45 = .ok (.isub, 1) := by decide +kernel
theorem dL_isGust_46 : decode cL_isGust 46 = .ok (.invokestatic 60, 3) := by decide +kernel
theorem dL_isGust_49 : decode cL_isGust 49 = .ok (.ifCond .ne 20, 3) := by decide +kernel
theorem dL_isGust_52 : decode cL_isGust 52 = .ok (.iload_n 3, 1) := by decide +kernel
theorem dL_isGust_53 : decode cL_isGust 53 = .ok (.iconst 2, 1) := by decide +kernel
theorem dL_isGust_54 : decode cL_isGust 54 = .ok (.if_icmp .ne 19, 3) := by decide +kernel
theorem dL_isGust_57 : decode cL_isGust 57 = .ok (.aload_n 0, 1) := by decide +kernel
theorem dL_isGust_58 : decode cL_isGust 58 = .ok (.iload 6, 2) := by decide +kernel
theorem dL_isGust_60 : decode cL_isGust 60 = .ok (.iload_n 1, 1) := by decide +kernel
theorem dL_isGust_61 : decode cL_isGust 61 = .ok (.iconst 1, 1) := by decide +kernel
theorem dL_isGust_62 : decode cL_isGust 62 = .ok (.iadd, 1) := by decide +kernel
theorem dL_isGust_63 : decode cL_isGust 63 = .ok (.invokestatic 60, 3) := by decide +kernel
theorem dL_isGust_66 : decode cL_isGust 66 = .ok (.ifCond .eq 7, 3) := by decide +kernel
theorem dL_isGust_69 : decode cL_isGust 69 = .ok (.iconst 1, 1) := by decide +kernel
theorem dL_isGust_70 : decode cL_isGust 70 = .ok (.goto 4, 3) := by decide +kernel
theorem dL_isGust_73 : decode cL_isGust 73 = .ok (.iconst 0, 1) := by decide +kernel
theorem dL_isGust_74 : decode cL_isGust 74 = .ok (.iadd, 1) := by decide +kernel
theorem dL_isGust_75 : decode cL_isGust 75 = .ok (.istore 4, 2) := by decide +kernel
theorem dL_isGust_77 : decode cL_isGust 77 = .ok (.iload 5, 2) := by decide +kernel
theorem dL_isGust_79 : decode cL_isGust 79 = .ok (.iload 7, 2) := by decide +kernel
theorem dL_isGust_81 : decode cL_isGust 81 = .ok (.ifCond .ne 31, 3) := by decide +kernel
theorem dL_isGust_84 : decode cL_isGust 84 = .ok (.aload_n 0, 1) := by decide +kernel
theorem dL_isGust_85 : decode cL_isGust 85 = .ok (.iload 6, 2) := by decide +kernel
theorem dL_isGust_87 : decode cL_isGust 87 = .ok (.iload_n 1, 1) := by decide +kernel
theorem dL_isGust_88 : decode cL_isGust 88 = .ok (.iconst 1, 1) := by decide +kernel
theorem dL_isGust_89 : decode cL_isGust 89 = .ok (.isub, 1) := by decide +kernel
theorem dL_isGust_90 : decode cL_isGust 90 = .ok (.invokestatic 60, 3) := by decide +kernel
theorem dL_isGust_93 : decode cL_isGust 93 = .ok (.ifCond .ne 15, 3) := by decide +kernel
theorem dL_isGust_96 : decode cL_isGust 96 = .ok (.aload_n 0, 1) := by decide +kernel
theorem dL_isGust_97 : decode cL_isGust 97 = .ok (.iload 6, 2) := by decide +kernel
theorem dL_isGust_99 : decode cL_isGust 99 = .ok (.iload_n 1, 1) := by decide +kernel
theorem dL_isGust_100 : decode cL_isGust 100 = .ok (.iconst 1, 1) := by decide +kernel
theorem dL_isGust_101 : decode cL_isGust 101 = .ok (.iadd, 1) := by decide +kernel
theorem dL_isGust_102 : decode cL_isGust 102 = .ok (.invokestatic 60, 3) := by decide +kernel
theorem dL_isGust_105 : decode cL_isGust 105 = .ok (.ifCond .eq 7, 3) := by decide +kernel
theorem dL_isGust_108 : decode cL_isGust 108 = .ok (.iconst 1, 1) := by decide +kernel
theorem dL_isGust_109 : decode cL_isGust 109 = .ok (.goto 4, 3) := by decide +kernel
theorem dL_isGust_112 : decode cL_isGust 112 = .ok (.iconst 0, 1) := by decide +kernel
theorem dL_isGust_113 : decode cL_isGust 113 = .ok (.iadd, 1) := by decide +kernel
theorem dL_isGust_114 : decode cL_isGust 114 = .ok (.istore 5, 2) := by decide +kernel
theorem dL_isGust_116 : decode cL_isGust 116 = .ok (.iinc 6 1, 3) := by decide +kernel
theorem dL_isGust_119 : decode cL_isGust 119 = .ok (.goto (-110), 3) := by decide +kernel
theorem dL_isGust_122 : decode cL_isGust 122 = .ok (.aload_n 0, 1) := by decide +kernel
theorem dL_isGust_123 : decode cL_isGust 123 = .ok (.iload_n 1, 1) := by decide +kernel
theorem dL_isGust_124 : decode cL_isGust 124 = .ok (.iconst 1, 1) := by decide +kernel
theorem dL_isGust_125 : decode cL_isGust 125 = .ok (.invokevirtual 52, 3) := by decide +kernel
theorem dL_isGust_128 : decode cL_isGust 128 = .ok (.iload 4, 2) := by decide +kernel
theorem dL_isGust_130 : decode cL_isGust 130 = .ok (.ifCond .le 7, 3) := by decide +kernel
theorem dL_isGust_133 : decode cL_isGust 133 = .ok (.iconst 0, 1) := by decide +kernel
theorem dL_isGust_134 : decode cL_isGust 134 = .ok (.goto 4, 3) := by decide +kernel
theorem dL_isGust_137 : decode cL_isGust 137 = .ok (.iload_n 2, 1) := by decide +kernel
theorem dL_isGust_138 : decode cL_isGust 138 = .ok (.iadd, 1) := by decide +kernel
theorem dL_isGust_139 : decode cL_isGust 139 = .ok (.iload 5, 2) := by decide +kernel
theorem dL_isGust_141 : decode cL_isGust 141 = .ok (.iload_n 2, 1) := by decide +kernel
theorem dL_isGust_142 : decode cL_isGust 142 = .ok (.iconst 2, 1) := by decide +kernel
theorem dL_isGust_143 : decode cL_isGust 143 = .ok (.idiv, 1) := by decide +kernel
theorem dL_isGust_144 : decode cL_isGust 144 = .ok (.imul, 1) := by decide +kernel
theorem dL_isGust_145 : decode cL_isGust 145 = .ok (.iadd, 1) := by decide +kernel
theorem dL_isGust_146 : decode cL_isGust 146 = .ok (.istore 6, 2) := by decide +kernel
theorem dL_isGust_148 : decode cL_isGust 148 = .ok (.iload 6, 2) := by decide +kernel
theorem dL_isGust_150 : decode cL_isGust 150 = .ok (.sipush 999, 3) := by decide +kernel
theorem dL_isGust_153 : decode cL_isGust 153 = .ok (.if_icmp .le 9, 3) := by decide +kernel
theorem dL_isGust_156 : decode cL_isGust 156 = .ok (.sipush 999, 3) := by decide +kernel
theorem dL_isGust_159 : decode cL_isGust 159 = .ok (.goto 5, 3) := by decide +kernel
theorem dL_isGust_162 : decode cL_isGust 162 = .ok (.iload 6, 2) := by decide +kernel
theorem dL_isGust_164 : decode cL_isGust 164 = .ok (.istore 6, 2) := by decide +kernel
theorem dL_isGust_166 : decode cL_isGust 166 = .ok (.aload_n 0, 1) := by decide +kernel
theorem dL_isGust_167 : decode cL_isGust 167 = .ok (.iload_n 1, 1) := by decide +kernel
theorem dL_isGust_168 : decode cL_isGust 168 = .ok (.iload_n 2, 1) := by decide +kernel
theorem dL_isGust_169 : decode cL_isGust 169 = .ok (.iload_n 3, 1) := by decide +kernel
theorem dL_isGust_170 : decode cL_isGust 170 = .ok (.iconst 0, 1) := by decide +kernel
theorem dL_isGust_171 : decode cL_isGust 171 = .ok (.invokevirtual 48, 3) := by decide +kernel
theorem dL_isGust_174 : decode cL_isGust 174 = .ok (.iload 4, 2) := by decide +kernel
theorem dL_isGust_176 : decode cL_isGust 176 = .ok (.ifCond .le 7, 3) := by decide +kernel
theorem dL_isGust_179 : decode cL_isGust 179 = .ok (.iconst 1, 1) := by decide +kernel
theorem dL_isGust_180 : decode cL_isGust 180 = .ok (.goto 4, 3) := by decide +kernel
theorem dL_isGust_183 : decode cL_isGust 183 = .ok (.iconst 0, 1) := by decide +kernel
theorem dL_isGust_184 : decode cL_isGust 184 = .ok (.if_icmp .ne 60, 3) := by decide +kernel
theorem dL_isGust_187 : decode cL_isGust 187 = .ok (.aload_n 0, 1) := by decide +kernel
theorem dL_isGust_188 : decode cL_isGust 188 = .ok (.iload_n 1, 1) := by decide +kernel
theorem dL_isGust_189 : decode cL_isGust 189 = .ok (.iload_n 2, 1) := by decide +kernel
theorem dL_isGust_190 : decode cL_isGust 190 = .ok (.iload_n 3, 1) := by decide +kernel
theorem dL_isGust_191 : decode cL_isGust 191 = .ok (.iconst 1, 1) := by decide +kernel
theorem dL_isGust_192 : decode cL_isGust 192 = .ok (.invokevirtual 48, 3) := by decide +kernel
theorem dL_isGust_195 : decode cL_isGust 195 = .ok (.iload 5, 2) := by decide +kernel
theorem dL_isGust_197 : decode cL_isGust 197 = .ok (.if_icmp .ne 47, 3) := by decide +kernel
theorem dL_isGust_200 : decode cL_isGust 200 = .ok (.aload_n 0, 1) := by decide +kernel
theorem dL_isGust_201 : decode cL_isGust 201 = .ok (.iload_n 1, 1) := by decide +kernel
theorem dL_isGust_202 : decode cL_isGust 202 = .ok (.iload_n 2, 1) := by decide +kernel
theorem dL_isGust_203 : decode cL_isGust 203 = .ok (.iload_n 3, 1) := by decide +kernel
theorem dL_isGust_204 : decode cL_isGust 204 = .ok (.iconst 2, 1) := by decide +kernel
theorem dL_isGust_205 : decode cL_isGust 205 = .ok (.invokevirtual 48, 3) := by decide +kernel
theorem dL_isGust_208 : decode cL_isGust 208 = .ok (.iload 6, 2) := by decide +kernel
theorem dL_isGust_210 : decode cL_isGust 210 = .ok (.if_icmp .ne 34, 3) := by decide +kernel
theorem dL_isGust_213 : decode cL_isGust 213 = .ok (.aload_n 0, 1) := by decide +kernel
theorem dL_isGust_214 : decode cL_isGust 214 = .ok (.iload_n 1, 1) := by decide +kernel
theorem dL_isGust_215 : decode cL_isGust 215 = .ok (.iload_n 2, 1) := by decide +kernel
theorem dL_isGust_216 : decode cL_isGust 216 = .ok (.iload_n 3, 1) := by decide +kernel
theorem dL_isGust_217 : decode cL_isGust 217 = .ok (.iconst 3, 1) := by decide +kernel
theorem dL_isGust_218 : decode cL_isGust 218 = .ok (.invokevirtual 48, 3) := by decide +kernel
theorem dL_isGust_221 : decode cL_isGust 221 = .ok (.iload 6, 2) := by decide +kernel
theorem dL_isGust_223 : decode cL_isGust 223 = .ok (.aload_n 0, 1) := by decide +kernel
theorem dL_isGust_224 : decode cL_isGust 224 = .ok (.iload_n 1, 1) := by decide +kernel
theorem dL_isGust_225 : decode cL_isGust 225 = .ok (.iconst 2, 1) := by decide +kernel
theorem dL_isGust_226 : decode cL_isGust 226 = .ok (.invokevirtual 52, 3) := by decide +kernel
theorem dL_isGust_229 : decode cL_isGust 229 = .ok (.if_icmp .le 7, 3) := by decide +kernel
theorem dL_isGust_232 : decode cL_isGust 232 = .ok (.iconst 1, 1) := by decide +kernel
theorem dL_isGust_233 : decode cL_isGust 233 = .ok (.goto 4, 3) := by decide +kernel
theorem dL_isGust_236 : decode cL_isGust 236 = .ok (.iconst 0, 1) := by decide +kernel
theorem dL_isGust_237 : decode cL_isGust 237 = .ok (.if_icmp .ne 7, 3) := by decide +kernel
theorem dL_isGust_240 : decode cL_isGust 240 = .ok (.iconst 1, 1) := by decide +kernel
theorem dL_isGust_241 : decode cL_isGust 241 = .ok (.goto 4, 3) := by decide +kernel
theorem dL_isGust_244 : decode cL_isGust 244 = .ok (.iconst 0, 1) := by decide +kernel
theorem dL_isGust_245 : decode cL_isGust 245 = .ok (.ireturn, 1) := by decide +kernel
set_option maxRecDepth 20000 in
theorem ggL_all_X3_count_0 : GoodIn wsL_all [.code yX3_count cX3_count 2 (some .int)] := goodIn_r _ [5] (by decide +kernel) (by decide +kernel)
set_option maxRecDepth 20000 in
theorem ggL_all_X3_count_1 : GoodIn wsL_all wsX3_count_r1 := goodIn_r _ [6, 7, 8, 9, 10, 11, 12, 13, 14, 15, 16, 17, 18, 19, 20, 21, 22, 23, 24, 25, 26, 27, 28, 29] (by decide +kernel) (by decide +kernel)
set_option maxRecDepth 20000 in
theorem ggL_all_X3_count_2 : GoodIn wsL_all wsX3_count_r2 := goodIn_r _ [30, 31, 32, 33, 34, 35, 36, 37, 38, 39, 40, 41, 42, 43, 44, 45, 46, 47, 48, 49, 50, 51, 52, 53] (by decide +kernel) (by decide +kernel)
set_option maxRecDepth 20000 in
theorem ggL_all_X3_count_3 : GoodIn wsL_all wsX3_count_r3 := goodIn_r _ [54, 55, 56, 57, 4, 58] (by decide +kernel) (by decide +kernel)
set_option maxRecDepth 20000 in
theorem ggL_all_X3_count_4 : GoodIn wsL_all wsX30 := goodIn_r _ [90, 91, 92, 93, 94, 95, 96] (by decide +kernel) (by decide +kernel)
set_option maxRecDepth 20000 in
theorem ggL_all_X3_count_5 : GoodIn wsL_all wsX10 := goodIn_r _ [97, 98, 99, 100, 101, 102, 103, 104, 105, 106, 107, 108, 109, 110, 111, 112, 113] (by decide +kernel) (by decide +kernel)
set_option maxRecDepth 20000 in
theorem ggL_all_X3_count_6 : GoodIn wsL_all wsX00 := goodIn_r _ [114, 115] (by decide +kernel) (by decide +kernel)
set_option maxRecDepth 20000 in
theorem ggL_all_X3_count_7 : GoodIn wsL_all wsX20 := goodIn_r _ [116, 117, 118, 119, 120, 121, 122] (by decide +kernel) (by decide +kernel)
theorem ggL_all_X3_count : GoodIn wsL_all wsX3_count := fun w h => (List.mem_cons.mp h).elim (fun z => ggL_all_X3_count_0 w (List.mem_singleton.mpr z)) (fun z => (List.forall_mem_append.mpr ⟨List.forall_mem_append.mpr ⟨List.forall_mem_append.mpr ⟨List.forall_mem_append.mpr ⟨List.forall_mem_append.mpr ⟨ggL_all_X3_count_1, List.forall_mem_append.mpr ⟨ggL_all_X3_count_2, ggL_all_X3_count_3⟩⟩, ggL_all_X3_count_4⟩, ggL_all_X3_count_5⟩, ggL_all_X3_count_6⟩, ggL_all_X3_count_7⟩) w z)
set_option maxRecDepth 20000 in
theorem gL_all_X3_count : GoodIn wsL_all (wsV RL 9 RX3 yX3_count wsX3_count) := goodIn_app (goodIn_of _ (by decide +kernel)) ggL_all_X3_count
set_option maxRecDepth 20000 in
theorem ggL_all_X3_ifGust_0 : GoodIn wsL_all [.code yX3_ifGust cX3_ifGust 5 (some .int)] := goodIn_r _ [62] (by decide +kernel) (by decide +kernel)
set_option maxRecDepth 20000 in
theorem ggL_all_X3_ifGust_1 : GoodIn wsL_all wsX3_ifGust_r1 := goodIn_r _ [6, 63, 64, 65, 66, 25, 67, 27, 68, 69, 4, 70, 71, 57, 58, 72, 73, 74, 75, 41, 42, 43, 44, 45] (by decide +kernel) (by decide +kernel)
set_option maxRecDepth 20000 in
theorem ggL_all_X3_ifGust_2 : GoodIn wsL_all wsX3_ifGust_r2 := goodIn_r _ [46, 47, 48, 49, 50, 51, 52, 53, 54, 55, 56, 76, 77, 78, 79, 80, 81, 82, 83, 28, 84, 85, 86, 87] (by decide +kernel) (by decide +kernel)
set_option maxRecDepth 20000 in
theorem ggL_all_X3_ifGust_3 : GoodIn wsL_all wsX3_ifGust_r3 := goodIn_r _ [88, 89] (by decide +kernel) (by decide +kernel)
set_option maxRecDepth 20000 in
theorem ggL_all_X3_ifGust_4 : GoodIn wsL_all wsX30 := goodIn_r _ [90, 91, 92, 93, 94, 95, 96] (by decide +kernel) (by decide +kernel)
set_option maxRecDepth 20000 in
theorem ggL_all_X3_ifGust_5 : GoodIn wsL_all wsX10 := goodIn_r _ [97, 98, 99, 100, 101, 102, 103, 104, 105, 106, 107, 108, 109, 110, 111, 112, 113] (by decide +kernel) (by decide +kernel)
theorem ggL_all_X3_ifGust : GoodIn wsL_all wsX3_ifGust := fun w h => (List.mem_cons.mp h).elim (fun z => ggL_all_X3_ifGust_0 w (List.mem_singleton.mpr z)) (fun z => (List.forall_mem_append.mpr ⟨List.forall_mem_append.mpr ⟨List.forall_mem_append.mpr ⟨ggL_all_X3_ifGust_1, List.forall_mem_append.mpr ⟨ggL_all_X3_ifGust_2, ggL_all_X3_ifGust_3⟩⟩, ggL_all_X3_ifGust_4⟩, ggL_all_X3_ifGust_5⟩) w z)
set_option maxRecDepth 20000 in
theorem gL_all_X3_ifGust : GoodIn wsL_all (wsV RL 48 RX3 yX3_ifGust wsX3_ifGust) := goodIn_app (goodIn_of _ (by decide +kernel)) ggL_all_X3_ifGust
theorem dL_all_0 : decode cL_all 0 = .ok (.iconst 0, 1) := by decide +kernel
theorem dL_all_1 : decode cL_all 1 = .ok (.istore_n 3, 1) := by decide +kernel
theorem dL_all_2 : decode cL_all 2 = .ok (.iconst 0, 1) := by decide +kernel
theorem dL_all_3 : decode cL_all 3 = .ok (.istore 4, 2) := by decide +kernel
theorem dL_all_5 : decode cL_all 5 = .ok (.iload 4, 2) := by decide +kernel
theorem dL_all_7 : decode cL_all 7 = .ok (.aload_n 0, 1) := by decide +kernel
theorem dL_all_8 : decode cL_all 8 = .ok (.iconst 0, 1) := by decide +kernel
theorem dL_all_9 : decode cL_all 9 = .ok (.invokevirtual 9, 3) := by decide +kernel
theorem dL_all_12 : decode cL_all 12 = .ok (.if_icmp .ge 21, 3) := by decide +kernel
theorem dL_all_15 : decode cL_all 15 = .ok (.iload_n 3, 1) := by decide +kernel
theorem dL_all_16 : decode cL_all 16 = .ok (.aload_n 0, 1) := by decide +kernel
theorem dL_all_17 : decode cL_all 17 = .ok (.iload 4, 2) := by decide +kernel
theorem dL_all_19 : decode cL_all 19 = .ok (.iload_n 1, 1) := by decide +kernel
theorem dL_all_20 : decode cL_all 20 = .ok (.iload_n 2, 1) := by decide +kernel
theorem dL_all_21 : decode cL_all 21 = .ok (.iconst 2, 1) := by decide +kernel
theorem dL_all_22 : decode cL_all 22 = .ok (.invokevirtual 48, 3) := by decide +kernel
theorem dL_all_25 : decode cL_all 25 = .ok (.iadd, 1) := by decide +kernel
theorem dL_all_26 : decode cL_all 26 = .ok (.istore_n 3, 1) := by decide +kernel
theorem dL_all_27 : decode cL_all 27 = .ok (.iinc 4 1, 3) := by decide +kernel
theorem dL_all_30 : decode cL_all 30 = .ok (.goto (-25), 3) := by decide +kernel
theorem dL_all_33 : decode cL_all 33 = .ok (.iload_n 3, 1) := by decide +kernel
theorem dL_all_34 : decode cL_all 34 = .ok (.ireturn, 1) := by decide +kernel
end
section
/-! The words of this proof: ints as jj of an Int, arrays as ac of a function, the world (Wd), what holds in a walk (Cx), and one row an instruction over them. -/
def jj (z : Int) : Int32 := Int32.ofInt z
theorem jj_of (x : Int32) : jj x.toInt = x := Int32.ofInt_toInt x
theorem jj_toInt {z : Int} (h1 : -2147483648 ≤ z) (h2 : z ≤ 2147483647) : (jj z).toInt = z := by
  unfold jj
  exact Int32.toInt_ofInt_of_le (by omega) (by omega)
theorem jj_lo (x : Int32) : -2147483648 ≤ x.toInt := by
  have := Int32.le_toInt x; omega
theorem jj_hi (x : Int32) : x.toInt ≤ 2147483647 := by
  have := Int32.toInt_lt x; omega
theorem jj_add (a b : Int) : jj a + jj b = jj (a + b) := (Int32.ofInt_add a b).symm
theorem jj_sub (a b : Int) : jj a - jj b = jj (a - b) := (Int32.ofInt_sub a b).symm
theorem jj_mul (a b : Int) : jj a * jj b = jj (a * b) := (Int32.ofInt_mul a b).symm
theorem jj_neg (a : Int) : -jj a = jj (-a) := (Int32.ofInt_neg a).symm
theorem jj_div {a b : Int} (ha : 0 ≤ a) (ha2 : a ≤ 2147483647) (hb : 0 < b) (hb2 : b ≤ 2147483647) : jj a / jj b = jj (a / b) := by
  have h0 : 0 ≤ a / b := Int.ediv_nonneg ha (by omega)
  have h1 : a / b ≤ a := Int.ediv_le_self b ha
  apply Int32.toInt_inj.mp
  rw [lg_idiv_nonneg (by rw [jj_toInt (by omega) ha2]; omega) (by rw [jj_toInt (by omega) hb2]; omega), jj_toInt (by omega) ha2, jj_toInt (by omega) hb2, jj_toInt (by omega) (by omega)]
theorem jj_inj {a b : Int} (h1 : -2147483648 ≤ a) (h2 : a ≤ 2147483647) (h3 : -2147483648 ≤ b) (h4 : b ≤ 2147483647) : jj a = jj b ↔ a = b := by
  rw [← Int32.toInt_inj, jj_toInt h1 h2, jj_toInt h3 h4]
theorem jj_le {a b : Int} (h1 : -2147483648 ≤ a) (h2 : a ≤ 2147483647) (h3 : -2147483648 ≤ b) (h4 : b ≤ 2147483647) : jj a ≤ jj b ↔ a ≤ b := by
  rw [Int32.le_iff_toInt_le, jj_toInt h1 h2, jj_toInt h3 h4]
theorem jj_lt {a b : Int} (h1 : -2147483648 ≤ a) (h2 : a ≤ 2147483647) (h3 : -2147483648 ≤ b) (h4 : b ≤ 2147483647) : jj a < jj b ↔ a < b := by
  rw [Int32.lt_iff_toInt_lt, jj_toInt h1 h2, jj_toInt h3 h4]
theorem jj_cl {i : Int} (h0 : 0 ≤ i) (h1 : i ≤ 2147483647) : ((jj i).toNatClampNeg : Int) = i := by
  have := jj_toInt (z := i) (by omega) h1
  have h2 : (jj i).toNatClampNeg = (jj i).toInt.toNat := rfl
  rw [h2, this]; omega
theorem jj_in {i : Int} {n : Nat} (h0 : 0 ≤ i) (h1 : i < n) (h2 : i ≤ 2147483647) : vp_in (jj i) n := by
  rw [vp_in_iff, jj_toInt (by omega) h2]; omega
/-- a truth value as an int -/
def bI (P : Prop) [Decidable P] : Int := if P then 1 else 0
theorem bI_t {P : Prop} [Decidable P] (h : P) : bI P = 1 := if_pos h
theorem bI_f {P : Prop} [Decidable P] (h : ¬ P) : bI P = 0 := if_neg h
theorem bI_lo (P : Prop) [Decidable P] : 0 ≤ bI P := by unfold bI; split <;> omega
theorem bI_hi (P : Prop) [Decidable P] : bI P ≤ 1 := by unfold bI; split <;> omega
theorem bI_0 {P : Prop} [Decidable P] : jj (bI P) = 0 ↔ ¬ P := by
  by_cases h : P
  · rw [bI_t h]; exact ⟨fun q => absurd q (by decide), fun q => absurd h q⟩
  · rw [bI_f h]; exact ⟨fun _ => h, fun _ => by decide⟩
def up (f : Int → Int) (i v : Int) : Int → Int := fun j => if j = i then v else f j
theorem up_s (f : Int → Int) (i v : Int) : up f i v i = v := if_pos rfl
theorem up_n (f : Int → Int) {i j : Int} (v : Int) (h : j ≠ i) : up f i v j = f j := if_neg h
theorem up_same (f : Int → Int) (i : Int) : up f i (f i) = f := by
  funext j; unfold up; split
  · next h => rw [h]
  · rfl
/-- an array's cells -/
def ac (f : Int → Int) : Nat → Int32 := fun k => jj (f (k : Int))
theorem ac_ld (f : Int → Int) {i : Int} (h0 : 0 ≤ i) (h1 : i ≤ 2147483647) : ac f (jj i).toNatClampNeg = jj (f i) := by
  unfold ac; rw [jj_cl h0 h1]
theorem ac_st (f : Int → Int) {i : Int} (v : Int) (h0 : 0 ≤ i) (h1 : i ≤ 2147483647) : upd (ac f) (jj i).toNatClampNeg (jj v) = ac (up f i v) := by
  funext k
  unfold upd ac up
  have := jj_cl h0 h1
  by_cases h : k = (jj i).toNatClampNeg
  · rw [if_pos h, if_pos (by omega)]
  · rw [if_neg h, if_neg (by omega)]
/-! iteration -/
def itN {α : Type} (f : Int → α → α) (a : α) : Nat → α
  | 0 => a
  | k + 1 => f (k : Int) (itN f a k)
def it {α : Type} (f : Int → α → α) (a : α) (i : Int) : α := itN f a i.toNat
theorem it_0 {α : Type} (f : Int → α → α) (a : α) : it f a 0 = a := rfl
theorem it_z {α : Type} (f : Int → α → α) (a : α) {i : Int} (h : i ≤ 0) : it f a i = a := by
  unfold it; rw [show i.toNat = 0 by omega]; rfl
theorem it_s {α : Type} (f : Int → α → α) (a : α) {i : Int} (h : 0 ≤ i) : it f a (i + 1) = f i (it f a i) := by
  unfold it
  rw [show (i + 1).toNat = i.toNat + 1 by omega]
  show f ((i.toNat : Nat) : Int) _ = _
  rw [show ((i.toNat : Nat) : Int) = i by omega]
/-- what holds of each step holds of the whole -/
theorem it_ind {α : Type} (f : Int → α → α) (a : α) (P : Int → α → Prop) (n : Int) (h0 : P 0 a) (hs : ∀ i x, 0 ≤ i → i < n → P i x → P (i + 1) (f i x)) : ∀ i, 0 ≤ i → i ≤ n → P i (it f a i) := by
  intro i hi hn
  have key : ∀ k : Nat, (k : Int) ≤ n → P k (itN f a k) := by
    intro k
    induction k with
    | zero => intro _; exact h0
    | succ k ih =>
      intro hk
      have := hs k (itN f a k) (by omega) (by omega) (ih (by omega))
      exact this
  have := key i.toNat (by omega)
  unfold it
  rw [show ((i.toNat : Nat) : Int) = i by omega] at this
  exact this
theorem it_cong {α : Type} (f g : Int → α → α) (a : α) (n : Int) (h : ∀ i x, 0 ≤ i → i < n → f i x = g i x) : it f a n = it g a n := by
  rcases Int.le_total n 0 with h0 | h0
  · rw [it_z _ _ h0, it_z _ _ h0]
  · have := it_ind f a (fun i x => x = it g a i) n rfl (fun i x h1 h2 hx => by rw [h i x h1 h2, hx, it_s g a h1]) n h0 (Int.le_refl n)
    exact this
end
section
/-! What holds in a walk; the world; calls. -/
/-- the words of the calls between nest mates -/
def NW (U : State) : Prop :=
  (va_Nw (.methodLinkNest RX3 28 yX2_init RX3) U ∧ va_AO RX1 U) ∧ va_Nw (.methodLinkNest RX3 9 yX1_init RX3) U ∧ va_Nw (.methodLinkNest RX0 15 yX1_init RX3) U ∧
  va_Nw (.methodLinkNest RX1 70 yX3_isWithin RX3) U ∧ va_Nw (.methodLinkNest RX1 99 yX3_isGust RX3) U ∧ True
theorem NW.warm {s U : State} (hW : s.WarmedH U.vm) (h : NW s) : NW U :=
  ⟨⟨va_Nw.warmM hW h.1.1, h.1.2.moved hW.alike⟩, va_Nw.warmM hW h.2.1, va_Nw.warmM hW h.2.2.1, va_Nw.warmM hW h.2.2.2.1, va_Nw.warmM hW h.2.2.2.2.1, trivial⟩
theorem NW.vm {s U : State} (hv : s.vm = U.vm) (h : NW s) : NW U :=
  ⟨⟨va_tabs rfl hv h.1.1, h.1.2.moved (hv ▸ Vm.Alike.refl s.vm)⟩, va_tabs rfl hv h.2.1, va_tabs rfl hv h.2.2.1, va_tabs rfl hv h.2.2.2.1, va_tabs rfl hv h.2.2.2.2.1, trivial⟩
/-- the class's two static rows -/
def slj (j : Nat) : Int := if j = 1 then 1 else 0
def shj (j : Nat) : Int := if j = 0 then 50 else if j = 1 then 4 else 99
def SF (A : Nat → Prop) (U : State) (H : Heap) : Prop :=
  (∃ t : Nat, va_Z RX3 "LEAST_SETTING" "[I" (.ref t) A U H ∧ va_T .int t 3 (fun j => .int (jj (slj j))) A U H) ∧
  (∃ t : Nat, va_Z RX3 "MOST_SETTING" "[I" (.ref t) A U H ∧ va_T .int t 3 (fun j => .int (jj (shj j))) A U H) ∧
  va_Nw (.fieldLinkNest RX1 93 RX3 "LEAST_SETTING" "[I" RX3) U ∧ va_Nw (.fieldLinkNest RX1 96 RX3 "MOST_SETTING" "[I" RX3) U
theorem SF.warm {A : Nat → Prop} {s U : State} {H : Heap} (hW : s.WarmedH U.vm) (h : SF A s H) : SF A U H := by
  obtain ⟨⟨t, h1, h2⟩, ⟨t', h3, h4⟩, h5, h6⟩ := h
  exact ⟨⟨t, h1.moved hW.alike, h2.moved hW.alike⟩, ⟨t', h3.moved hW.alike, h4.moved hW.alike⟩, va_Nw.warmF hW h5, va_Nw.warmF hW h6⟩
theorem SF.vm {A : Nat → Prop} {s U : State} {H : Heap} (hv : s.vm = U.vm) (h : SF A s H) : SF A U H := by
  obtain ⟨⟨t, h1, h2⟩, ⟨t', h3, h4⟩, h5, h6⟩ := h
  have ha : s.vm.Alike U.vm := hv ▸ Vm.Alike.refl s.vm
  exact ⟨⟨t, h1.moved ha, h2.moved ha⟩, ⟨t', h3.moved ha, h4.moved ha⟩, va_tabs rfl hv h5, va_tabs rfl hv h6⟩
theorem SF.kept {A : Nat → Prop} {s : State} {H H1 : Heap} (h : SF A s H) (hq : ∀ a : Nat, a < H.size → ¬ A a → H1[a]? = H[a]?) : SF A s H1 := by
  obtain ⟨⟨t, h1, h2⟩, ⟨t', h3, h4⟩, h5, h6⟩ := h
  exact ⟨⟨t, h1.kept hq, h2.kept hq⟩, ⟨t', h3.kept hq, h4.kept hq⟩, h5, h6⟩
theorem SF.narrow {A B : Nat → Prop} {s : State} {H : Heap} (h : SF A s H) (hAB : ∀ q, B q → A q) : SF B s H := by
  obtain ⟨⟨t, h1, h2⟩, ⟨t', h3, h4⟩, h5, h6⟩ := h
  exact ⟨⟨t, h1.narrow hAB, h2.narrow hAB⟩, ⟨t', h3.narrow hAB, h4.narrow hAB⟩, h5, h6⟩
def Cx (p : Program) (s : State) (m : MethodId) (args : Array Value) (meth : Method) (c : Code) (cc : ByteArray) (nL : Nat) (own : String) (Ts : List Cond) (D : va_G) (tys : List (ClassId × FieldType)) (A : Nat → Prop) (ret : Option FieldType) : Prop :=
  p.tables.exec = Jvm.exec ∧ c.code = cc ∧ c.maxLocals = nL ∧ s.vm.findClass own = some m.cls ∧ (∀ w ∈ Ts, w.before args s = true) ∧ va_K D vwCl tys s ∧ (∀ q, s.heap.size ≤ q → A q) ∧ meth.sig.returnType = ret ∧ meth.locks = false ∧ NW s ∧ SF A s s.heap
def Wd (D : va_G) (A : Nat → Prop) (s : State) (ws : va_W) (H : Heap) (locs : List Loc) : Prop := va_P D vwCl ws H ∧ va_D A ws ∧ va_S A s.heap H locs
def pW (D : va_G) (tys : List (ClassId × FieldType)) (sz : Nat) (ws : va_W) (U : State) : Prop := U.heap.size = sz ∧ va_P D vwCl ws U.heap ∧ va_K D vwCl tys U ∧ va_D (fun _ => True) ws ∧ NW U ∧ SF (va_A ws sz) U U.heap
def bW (D : va_G) (tys : List (ClassId × FieldType)) (A : Nat → Prop) (ws : va_W) (t : State) : Prop := va_P D vwCl ws t.heap ∧ va_K D vwCl tys t ∧ va_D A ws
def Qi (D : va_G) (tys : List (ClassId × FieldType)) (ev : Int) (w1 : va_W) (A : Nat → Prop) : Array Value → State → Outcome → State → Prop :=
  va_Qi (fun (r : Int32) (_ : Unit) => r = jj ev) (fun _ t => bW D tys A w1 t) A
def Qv (D : va_G) (tys : List (ClassId × FieldType)) (w1 : va_W) (A : Nat → Prop) : Array Value → State → Outcome → State → Prop :=
  va_Qv (fun (_ : Unit) => True) (fun _ t => bW D tys A w1 t) A
def Qr (D : va_G) (tys : List (ClassId × FieldType)) (ra : Nat) (w1 : va_W) (A : Nat → Prop) : Array Value → State → Outcome → State → Prop :=
  va_Qr (fun (_ : Unit) => True) (fun _ a t => a = ra ∧ bW D tys A w1 t) A
/-- a method's contract: it answers ev, the world w0 becomes w1 -/
def Ki (l : Launch) (y : MethodName) (ws : List Cond) (rm : Room) (D : va_G) (tys : List (ClassId × FieldType)) (av : List Value) (w0 : va_W) (ev : Int) (w1 : va_W) : Prop :=
  ∀ sz : Nat, Met l y ws rm (va_Pc av (pW D tys sz w0)) (Qi D tys ev w1 (va_A w0 sz)) 0 0 (va_A w0 sz)
def Kv (l : Launch) (y : MethodName) (ws : List Cond) (rm : Room) (D : va_G) (tys : List (ClassId × FieldType)) (av : List Value) (w0 : va_W) (w1 : va_W) : Prop :=
  ∀ sz : Nat, Met l y ws rm (va_Pc av (pW D tys sz w0)) (Qv D tys w1 (va_A w0 sz)) 0 0 (va_A w0 sz)
def Kr (l : Launch) (y : MethodName) (ws : List Cond) (rm : Room) (D : va_G) (tys : List (ClassId × FieldType)) (av : List Value) (w0 : va_W) (ra : Nat) (w1 : va_W) : Prop :=
  ∀ sz : Nat, Met l y ws rm (va_Pc av (pW D tys sz w0)) (Qr D tys ra w1 (va_A w0 sz)) 0 0 (va_A w0 sz)
/-- what is known of a method's code -/
def Fc (y : MethodName) (ws : List Cond) (rm : Room) (bytes : ByteArray) (nL : Nat) (ret : Option FieldType) (n : Nat) : Prop :=
  (∃ ws', ws = Cond.code y bytes nL ret :: ws') ∧ rm.cells = 0 ∧ rm.slots = 0 ∧ y.cls ≠ "java/lang/invoke/MethodHandle" ∧ y.cls ≠ "java/lang/invoke/VarHandle" ∧ (parseMethodDescriptor y.desc).map (fun d => d.parameters.length) = some n
theorem q_entry {l : Launch} {y : MethodName} {cc : ByteArray} {nL : Nat} {ret : Option FieldType} {ws : List Cond} {rm : Room} {av : List Value} {D : va_G} {tys : List (ClassId × FieldType)} {w0 : va_W} {Qf : (Nat → Prop) → Array Value → State → Outcome → State → Prop} {mc ms : Nat}
    (hy : plainName y.cls = true) (hw : ∃ ws', ws = Cond.code y cc nL ret :: ws') (hlen : (lg_sl av).length ≤ nL)
    (body : ∀ (A : Nat → Prop) (p : Program) (e : Env) (s : State) (m : MethodId) (args : Array Value) (below : List Frame) (meth : Method) (c : Code), Cx p s m args meth c cc nL y.cls ws D tys A ret → (y.name = "<init>" → meth.name = "<init>") → Wd D A s w0 s.heap [] → ∀ ls : Array Slot, lv_has ls nL (lv_args 0 av) →
      W p l e rm s m args below meth c s.heap [] 0 0 (MQ below (Qf A) args s mc ms A) (F0 m 0 ls [])) (sz : Nat) :
    Met l y ws rm (va_Pc av (pW D tys sz w0)) (Qf (va_A w0 sz)) mc ms (va_A w0 sz) := by
  obtain ⟨ws', hw⟩ := hw
  refine Met.ofW (cc := cc) (maxL := nL) (ret := ret) hy hw ?_
  intro p e s m args below meth c s₁ B hml hv
  obtain ⟨rfl, hsz, hP, hK, hD0, hN, hF⟩ := hv
  subst hsz
  rw [lg_entry_eq]
  refine body (va_A w0 s.heap.size) p e s m _ below meth c ⟨B.exec, B.bytes, hml, findClass_of_methodNamed B.named, atoms_spec (ws := ws) B.pre, hK, fun q h => Or.inr h, B.returns, B.notSynchronized, hN, hF⟩ (fun h => ?_) ⟨hP, hD0.self, va_S.rf⟩ _ (lv_entry av hlen)
  rw [← h]
  exact (name_of_methodNamed B.named B.method).1
/-! the world, by its members -/
theorem vP_iff {D : va_G} {cl : List vw_C} {ws : va_W} {H : Heap} : va_P D cl ws H ↔ ∀ q ∈ ws, va_at D cl q H :=
  ⟨fun h q hq => by obtain ⟨i, hi⟩ := List.getElem?_of_mem hq; exact h i q hi, fun h k q hk => h q (List.mem_of_getElem? hk)⟩
theorem vD_iff {A : Nat → Prop} {ws : va_W} : va_D A ws ↔ ws.Pairwise (fun a b => a.1 ≠ b.1) ∧ ∀ q ∈ ws, A q.1 := by
  constructor
  · intro h
    refine ⟨List.pairwise_iff_getElem.mpr (fun i j hi hj hij e => ?_), fun q hq => ?_⟩
    · have := h.1 i j _ _ (List.getElem?_eq_getElem hi) (List.getElem?_eq_getElem hj) e
      omega
    · obtain ⟨i, hi⟩ := List.getElem?_of_mem hq
      exact h.2 i q hi
  · rintro ⟨h1, h2⟩
    refine ⟨fun i j p q hp hq e => ?_, fun k q hk => h2 q (List.mem_of_getElem? hk)⟩
    obtain ⟨hi, rfl⟩ := List.getElem?_eq_some_iff.mp hp
    obtain ⟨hj, rfl⟩ := List.getElem?_eq_some_iff.mp hq
    rw [List.pairwise_iff_getElem] at h1
    rcases Nat.lt_trichotomy i j with h | h | h
    · exact absurd e (h1 i j hi hj h)
    · exact h
    · exact absurd e.symm (h1 j i hj hi h)
theorem vP_perm {D : va_G} {cl : List vw_C} {ws ws' : va_W} {H : Heap} (hp : ws.Perm ws') (h : va_P D cl ws H) : va_P D cl ws' H :=
  vP_iff.mpr (fun q hq => vP_iff.mp h q (hp.mem_iff.mpr hq))
theorem vD_perm {A : Nat → Prop} {ws ws' : va_W} (hp : ws.Perm ws') (h : va_D A ws) : va_D A ws' := by
  rw [vD_iff] at h ⊢
  exact ⟨(hp.pairwise_iff (fun hab => Ne.symm hab)).mp h.1, fun q hq => h.2 q (hp.mem_iff.mpr hq)⟩
/-- the part wc of ws becomes w1: ws becomes ws' -/
def Fr (ws wc w1 ws' : va_W) : Prop := ∃ v : va_W, ws.Perm (wc ++ v) ∧ (w1 ++ v).Perm ws'
theorem fr_all {wc w1 : va_W} : Fr wc wc w1 w1 := ⟨[], by rw [List.append_nil], by rw [List.append_nil]⟩
theorem fr_hd {wc w1 v : va_W} : Fr (wc ++ v) wc w1 (w1 ++ v) := ⟨v, List.Perm.refl _, List.Perm.refl _⟩
theorem fr_mid {u wc w1 v : va_W} : Fr (u ++ (wc ++ v)) wc w1 (u ++ (w1 ++ v)) :=
  ⟨u ++ v, List.perm_append_comm_assoc u wc v, (List.perm_append_comm_assoc u w1 v).symm⟩
theorem fr_P {D : va_G} {cl : List vw_C} {ws wc w1 ws' : va_W} {H : Heap} (fr : Fr ws wc w1 ws') (h : va_P D cl ws H) : va_P D cl wc H := by
  obtain ⟨v, h1, -⟩ := fr
  exact vP_iff.mpr (fun q hq => vP_iff.mp h q (h1.mem_iff.mpr (List.mem_append_left _ hq)))
theorem fr_D {A : Nat → Prop} {ws wc w1 ws' : va_W} (fr : Fr ws wc w1 ws') (h : va_D A ws) : va_D A wc := by
  obtain ⟨v, h1, -⟩ := fr
  have h2 := vD_iff.mp (vD_perm h1 h)
  exact vD_iff.mpr ⟨(List.pairwise_append.mp h2.1).1, fun q hq => h2.2 q (List.mem_append_left _ hq)⟩
theorem fr_F {A : Nat → Prop} {s : State} {ws wc w1 ws' : va_W} {H : Heap} {locs : List Loc} (fr : Fr ws wc w1 ws') (hD : va_D A ws) (hS : va_S A s.heap H locs) (hA : ∀ q, s.heap.size ≤ q → A q) : ∀ q, va_A wc H.size q → A q := by
  intro q hq
  rcases hq with ⟨k, e, hk⟩ | h
  · exact (fr_D fr hD).2 k _ hk
  · exact hA q (Nat.le_trans hS.1 h)
theorem wd_frame {D : va_G} {A : Nat → Prop} {s : State} {ws wc w1 ws' : va_W} {H H1 : Heap} {locs locs1 : List Loc} (fr : Fr ws wc w1 ws') (w : Wd D A s ws H locs) (hA : ∀ q, s.heap.size ≤ q → A q)
    (hk : ∀ q : Nat, q < H.size → ¬ va_A wc H.size q → H1[q]? = H[q]?) (hP1 : va_P D vwCl w1 H1) (hD1 : va_D (va_A wc H.size) w1) (hS1 : va_S A s.heap H1 locs1) : Wd D A s ws' H1 locs1 := by
  have hF := fr_F fr w.2.1 w.2.2 hA
  obtain ⟨v, h1, h2⟩ := fr
  have hP := vP_iff.mp (vP_perm h1 w.1)
  have hD := vD_iff.mp (vD_perm h1 w.2.1)
  obtain ⟨hd1, hd2, hd3⟩ := List.pairwise_append.mp hD.1
  have hD1' := vD_iff.mp hD1
  have hout : ∀ b ∈ v, ¬ va_A wc H.size b.1 := by
    intro b hb hq
    rcases hq with ⟨k, e, hk⟩ | h
    · exact hd3 _ (List.mem_of_getElem? hk) b hb rfl
    · exact absurd (hP b (List.mem_append_right _ hb)).lt (Nat.not_lt.mpr h)
  refine ⟨vP_perm h2 (vP_iff.mpr (fun q hq => ?_)), vD_perm h2 (vD_iff.mpr ⟨List.pairwise_append.mpr ⟨hD1'.1, hd2, fun a ha b hb e => ?_⟩, fun q hq => ?_⟩), hS1⟩
  · rcases List.mem_append.mp hq with h | h
    · exact vP_iff.mp hP1 q h
    · have hq2 := hP q (List.mem_append_right _ h)
      exact hq2.kept (hk q.1 hq2.lt (hout q h))
  · exact hout b hb (e ▸ hD1'.2 a ha)
  · rcases List.mem_append.mp hq with h | h
    · exact hF _ (hD1'.2 q h)
    · exact hD.2 q (List.mem_append_right _ h)
theorem wd_perm {D : va_G} {A : Nat → Prop} {s : State} {ws ws' : va_W} {H : Heap} {locs : List Loc} (hp : ws.Perm ws') (w : Wd D A s ws H locs) : Wd D A s ws' H locs := ⟨vP_perm hp w.1, vD_perm hp w.2.1, w.2.2⟩
/-- a row of cells counts below its length alone -/
theorem at_ac {D : va_G} {cl : List vw_C} {a n : Nat} {cA : ClassId} {f g : Int → Int} {H : Heap} (hfg : ∀ k : Int, 0 ≤ k → k < n → f k = g k) (h : va_at D cl (a, .inl (cA, n, .inl (ac f))) H) : va_at D cl (a, .inl (cA, n, .inl (ac g))) H := by
  have e : vp_cell cA (n, .inl (ac f)) = vp_cell cA (n, .inl (ac g)) := by
    show arrV cA n (fun j => .int (ac f j)) = arrV cA n (fun j => .int (ac g j))
    unfold arrV ac
    congr 1
    apply Array.ext
    · simp
    · intro i h1 h2
      have hi : i < n := by simpa using h1
      simp only [Array.getElem_ofFn]
      rw [hfg (i : Int) (by omega) (by omega)]
  show H[a]? = some (vp_cell cA (n, .inl (ac g)))
  rw [← e]; exact h
section QQ
variable {p : Program} {l : Launch} {e : Env} {R : Room} {s : State} {m : MethodId} {args : Array Value} {below : List Frame} {meth : Method} {c : Code} {H : Heap} {locs : List Loc} {cells slots : Nat} {Q : State → Prop}
variable {cc : ByteArray} {nL : Nat} {own : String} {Ts : List Cond} {D : va_G} {tys : List (ClassId × FieldType)} {A : Nat → Prop} {ret : Option FieldType} {pc : Nat} {ls : Array Slot} {rest : List Value} {ws wc w1 ws' : va_W}
theorem Cx.fix (C : Cx p s m args meth c cc nL own Ts D tys A ret) : CallFix p m c cc nL s args Ts own := ⟨C.1, C.2.1, C.2.2.1, C.2.2.2.1, C.2.2.2.2.1⟩
theorem Cx.K (C : Cx p s m args meth c cc nL own Ts D tys A ret) : va_K D vwCl tys s := C.2.2.2.2.2.1
theorem Cx.hA (C : Cx p s m args meth c cc nL own Ts D tys A ret) : ∀ q, s.heap.size ≤ q → A q := C.2.2.2.2.2.2.1
theorem Cx.ho (C : Cx p s m args meth c cc nL own Ts D tys A ret) : s.vm.findClass own = some m.cls := C.2.2.2.1
theorem Cx.ts (C : Cx p s m args meth c cc nL own Ts D tys A ret) : ∀ w ∈ Ts, w.before args s = true := C.2.2.2.2.1
theorem Cx.hr (C : Cx p s m args meth c cc nL own Ts D tys A ret) : meth.sig.returnType = ret := C.2.2.2.2.2.2.2.1
theorem Cx.locks (C : Cx p s m args meth c cc nL own Ts D tys A ret) : meth.locks = false := C.2.2.2.2.2.2.2.2.1
theorem Cx.N (C : Cx p s m args meth c cc nL own Ts D tys A ret) : NW s := C.2.2.2.2.2.2.2.2.2.1
theorem Cx.F (C : Cx p s m args meth c cc nL own Ts D tys A ret) : SF A s s.heap := C.2.2.2.2.2.2.2.2.2.2
theorem pre_blind {D : va_G} {tys : List (ClassId × FieldType)} {sz : Nat} {w0 : va_W} {av : List Value} : FrameBlind (va_Pc av (pW D tys sz w0)) := fun a U g mk q => by
  obtain ⟨q0, q1, qP, qK, qD, qN, qF⟩ := q
  exact ⟨q0, q1, qP, va_K.moved (u := U) (U := U.calling g mk a) (Vm.Alike.refl U.vm) qK, qD, NW.vm (s := U) (U := U.calling g mk a) rfl qN, SF.vm (s := U) (U := U.calling g mk a) rfl qF⟩
theorem pre_here (C : Cx p s m args meth c cc nL own Ts D tys A ret) (w : Wd D A s ws H locs) (fr : Fr ws wc w1 ws') {av : List Value} : ∀ U : State, U.heap = H → s.WarmedH U.vm → va_Pc av (pW D tys H.size wc) av.toArray U := fun U hU hW =>
  ⟨rfl, by rw [hU], by rw [hU]; exact fr_P fr w.1, va_K.moved hW.alike C.K, (fr_D fr w.2.1).weaken (fun _ _ _ _ => trivial), NW.warm hW C.N, SF.warm hW (by rw [hU]; exact (C.F.kept w.2.2.2.1).narrow (fr_F fr w.2.1 w.2.2 C.hA))⟩
theorem q_runi {ev : Int} {st0 : List Value} {a : Array Value} (C : Cx p s m args meth c cc nL own Ts D tys A ret) (w : Wd D A s ws H locs) (fr : Fr ws wc w1 ws')
    (hr : va_Run p l e R s m args below meth c H locs cells slots 0 0 (F0 m pc ls st0) rest (Qi D tys ev w1 (va_A wc H.size) a) (va_A wc H.size))
    (kk : ∀ (H1 : Heap) (locs1 : List Loc), Wd D A s ws' H1 locs1 → W p l e R s m args below meth c H1 locs1 cells slots Q (F0 m (pc + 3) ls (.int (jj ev) :: rest))) : W p l e R s m args below meth c H locs cells slots Q (F0 m pc ls st0) := by
  have hF := fr_F fr w.2.1 w.2.2 C.hA
  refine va_calli hr w.2.2 (fun q _ h => hF q h) hF (fun r u t H1 locs1 ht hvm hpost hB hz hk hS => ?_)
  subst hpost
  obtain ⟨hP1, -, hD1⟩ := hB
  rw [ht] at hP1
  exact kk H1 locs1 (wd_frame fr w C.hA hk hP1 hD1 hS)
theorem q_runv {st0 : List Value} {a : Array Value} (C : Cx p s m args meth c cc nL own Ts D tys A ret) (w : Wd D A s ws H locs) (fr : Fr ws wc w1 ws')
    (hr : va_Run p l e R s m args below meth c H locs cells slots 0 0 (F0 m pc ls st0) rest (Qv D tys w1 (va_A wc H.size) a) (va_A wc H.size))
    (kk : ∀ (H1 : Heap) (locs1 : List Loc), Wd D A s ws' H1 locs1 → W p l e R s m args below meth c H1 locs1 cells slots Q (F0 m (pc + 3) ls rest)) : W p l e R s m args below meth c H locs cells slots Q (F0 m pc ls st0) := by
  have hF := fr_F fr w.2.1 w.2.2 C.hA
  refine va_callv hr w.2.2 (fun q _ h => hF q h) hF (fun u t H1 locs1 ht hvm hpost hB hz hk hS => ?_)
  obtain ⟨hP1, -, hD1⟩ := hB
  rw [ht] at hP1
  exact kk H1 locs1 (wd_frame fr w C.hA hk hP1 hD1 hS)
theorem q_runr {ra : Nat} {st0 : List Value} {a : Array Value} (C : Cx p s m args meth c cc nL own Ts D tys A ret) (w : Wd D A s ws H locs) (fr : Fr ws wc w1 ws')
    (hr : va_Run p l e R s m args below meth c H locs cells slots 0 0 (F0 m pc ls st0) rest (Qr D tys ra w1 (va_A wc H.size) a) (va_A wc H.size))
    (kk : ∀ (H1 : Heap) (locs1 : List Loc), Wd D A s ws' H1 locs1 → W p l e R s m args below meth c H1 locs1 cells slots Q (F0 m (pc + 3) ls (.ref ra :: rest))) : W p l e R s m args below meth c H locs cells slots Q (F0 m pc ls st0) := by
  have hF := fr_F fr w.2.1 w.2.2 C.hA
  refine va_callr hr w.2.2 (fun q _ h => hF q h) hF (fun u ra' t H1 locs1 ht hvm hpost hB hz hk hS => ?_)
  obtain ⟨rfl, hP1, -, hD1⟩ := hB
  rw [ht] at hP1
  exact kk H1 locs1 (wd_frame fr w C.hA hk hP1 hD1 hS)
/-- a virtual call's run -/
theorem q_V {y : MethodName} {wy : List Cond} {rm : Room} {bytes : ByteArray} {maxL n index b : Nat} {retY : Option FieldType} {Cn : String} {As : List Value} {Qc : Array Value → State → Outcome → State → Prop} {fr1 : Nat → Prop} {ci q0 : Nat} {fs : List Value} {T : u_T} {N : Nat}
    (C : Cx p s m args meth c cc nL own Ts D tys A ret) (w : Wd D A s ws H locs) (fr : Fr ws wc wc ws) (F : Fc y wy rm bytes maxL retY n) (hG : GoodIn Ts (wsV own index Cn y wy)) (hC : y.cls = Cn)
    (hR : rm.frames + 1 ≤ R.frames ∧ 8 + (maxL + 11) + rm.locals ≤ R.locals) (hM : Met l y wy rm (va_Pc (.ref b :: As) (pW D tys H.size wc)) Qc 0 0 fr1)
    (he : wc[q0]? = some (b, .inr (ci, fs))) (hci : vwCl[ci]? = some (Cn, T, N)) (hn : As.length = n) {st : List Value} (hst : st = As.reverse ++ .ref b :: rest) {lv : List (Nat × Value)} (hl : lv_has ls nL lv) (hcat : (rest.map fun v => v.category).sum ≤ 8) (hdg : decode cc pc = .ok (.invokevirtual index, 3)) (hcs : cells ≤ R.cells ∧ slots ≤ R.slots) :
    va_Run p l e R s m args below meth c H locs cells slots 0 0 (F0 m pc ls st) rest (Qc (Value.ref b :: As).toArray) fr1 := by
  obtain ⟨⟨wy', hwy⟩, hrc, hrs, hd⟩ := F
  exact va_runV (As := As) (rest := rest) C.fix hM (cwV n C.ts hG hwy hrc hrs ⟨hC, hd⟩ hR) ⟨pre_blind, va_recv C.K (fr_P fr w.1) hci he, pre_here C w fr⟩ rfl hn hl.1 hst (lv_room hcat) hdg hcs
theorem q_S {y : MethodName} {wy : List Cond} {rm : Room} {bytes : ByteArray} {maxL n index : Nat} {retY : Option FieldType} {As : List Value} {Qc : Array Value → State → Outcome → State → Prop} {fr1 : Nat → Prop}
    (C : Cx p s m args meth c cc nL own Ts D tys A ret) (w : Wd D A s ws H locs) (fr : Fr ws wc wc ws) (F : Fc y wy rm bytes maxL retY n) (hG : GoodIn Ts (va_wsS own index y wy))
    (hR : rm.frames + 1 ≤ R.frames ∧ 8 + (maxL + 11) + rm.locals ≤ R.locals) (hM : Met l y wy rm (va_Pc As (pW D tys H.size wc)) Qc 0 0 fr1)
    (hn : As.length = n) {st : List Value} (hst : st = As.reverse ++ rest) {lv : List (Nat × Value)} (hl : lv_has ls nL lv) (hcat : (rest.map fun v => v.category).sum ≤ 8) (hdg : decode cc pc = .ok (.invokestatic index, 3)) (hcs : cells ≤ R.cells ∧ slots ≤ R.slots) :
    va_Run p l e R s m args below meth c H locs cells slots 0 0 (F0 m pc ls st) rest (Qc As.toArray) fr1 := by
  obtain ⟨⟨wy', hwy⟩, hrc, hrs, hd⟩ := F
  exact va_runS (As := As) (rest := rest) C.fix hM (va_cwS n C.ts hG hwy hrc hrs hd hR) ⟨pre_blind, pre_here C w fr⟩ rfl hn hl.1 hst (lv_room hcat) hdg hcs
theorem q_SN {y : MethodName} {wy : List Cond} {rm : Room} {bytes : ByteArray} {maxL n index : Nat} {retY : Option FieldType} {host : String} {As : List Value} {Qc : Array Value → State → Outcome → State → Prop} {fr1 : Nat → Prop}
    (C : Cx p s m args meth c cc nL own Ts D tys A ret) (w : Wd D A s ws H locs) (fr : Fr ws wc wc ws) (F : Fc y wy rm bytes maxL retY n) (hG : GoodIn Ts wy) (hnest : va_Nw (.methodLinkNest own index y host) s) (hini : Cond.initialized y.cls ∈ Ts) (hstat : Cond.static y ∈ Ts)
    (hR : rm.frames + 1 ≤ R.frames ∧ 8 + (maxL + 11) + rm.locals ≤ R.locals) (hM : Met l y wy rm (va_Pc As (pW D tys H.size wc)) Qc 0 0 fr1)
    (hn : As.length = n) {st : List Value} (hst : st = As.reverse ++ rest) {lv : List (Nat × Value)} (hl : lv_has ls nL lv) (hcat : (rest.map fun v => v.category).sum ≤ 8) (hdg : decode cc pc = .ok (.invokestatic index, 3)) (hcs : cells ≤ R.cells ∧ slots ≤ R.slots) :
    va_Run p l e R s m args below meth c H locs cells slots 0 0 (F0 m pc ls st) rest (Qc As.toArray) fr1 := by
  obtain ⟨⟨wy', hwy⟩, hrc, hrs, hd⟩ := F
  exact va_runSN (As := As) (rest := rest) C.fix hM ⟨va_cnB n C.ts hG hwy hrc hrs hnest (C.ts _ hini) hd hR, C.ts _ hstat, trivial⟩ ⟨pre_blind, pre_here C w fr⟩ rfl hn hl.1 hst (lv_room hcat) hdg hcs
/-! ends -/
theorem end_w (C : Cx p s m args meth c cc nL own Ts D tys A ret) (w : Wd D A s ws H locs) : ∀ t : State, t.heap = H → s.WarmedH t.vm → bW D tys A ws t ∧ va_F A s t := fun t ht hW =>
  ⟨⟨by rw [ht]; exact w.1, va_K.moved hW.alike C.K, w.2.1⟩, w.2.2.F ht⟩
theorem q_iret {ev v : Int} (C : Cx p s m args meth c cc nL own Ts D tys A (some .int)) (w : Wd D A s ws H locs) (hdg : decode cc pc = .ok (.ireturn, 1)) (hv : v = ev) (hw : ws = w1) :
    W p l e R s m args below meth c H locs 0 0 (MQ below (Qi D tys ev w1 A) args s 0 0 A) (F0 m pc ls [.int (jj v)]) := by
  subst hv; subst hw
  have hlocks := C.locks
  exact W.iret (v := jj v) C.1 C.2.1 C.hr (fun t ht hW => ⟨⟨jj v, (), rfl, rfl, (end_w C w t ht hW).1⟩, (end_w C w t ht hW).2⟩) w.2.2.2.2 hdg
theorem q_zret {P : Prop} [Decidable P] {v : Int} (C : Cx p s m args meth c cc nL own Ts D tys A (some .boolean)) (w : Wd D A s ws H locs) (hdg : decode cc pc = .ok (.ireturn, 1)) (hv : v = bI P) (hw : ws = w1) :
    W p l e R s m args below meth c H locs 0 0 (MQ below (Qi D tys (bI P) w1 A) args s 0 0 A) (F0 m pc ls [.int (jj v)]) := by
  subst hv; subst hw
  have hlocks := C.locks
  refine W.zret (v := jj (bI P)) C.1 C.2.1 C.hr ?_ (fun t ht hW => ⟨⟨jj (bI P), (), rfl, rfl, (end_w C w t ht hW).1⟩, (end_w C w t ht hW).2⟩) w.2.2.2.2 hdg
  by_cases h : P
  · rw [bI_t h]; rfl
  · rw [bI_f h]; rfl
theorem q_vret (C : Cx p s m args meth c cc nL own Ts D tys A none) (w : Wd D A s ws H locs) (hdg : decode cc pc = .ok (.return_, 1)) (hw : ws = w1) :
    W p l e R s m args below meth c H locs 0 0 (MQ below (Qv D tys w1 A) args s 0 0 A) (F0 m pc ls []) := by
  subst hw
  have hlocks := C.locks
  exact W.vret C.1 C.2.1 C.hr (fun t ht hW => ⟨⟨(), rfl, trivial, (end_w C w t ht hW).1⟩, (end_w C w t ht hW).2⟩) w.2.2.2.2 hdg
theorem q_aret {n : String} {ra a : Nat} (C : Cx p s m args meth c cc nL own Ts D tys A (some (.object n))) (w : Wd D A s ws H locs) (hdg : decode cc pc = .ok (.areturn, 1)) (ha : a = ra) (hw : ws = w1) :
    W p l e R s m args below meth c H locs 0 0 (MQ below (Qr D tys ra w1 A) args s 0 0 A) (F0 m pc ls [.ref a]) := by
  subst ha; subst hw
  have hlocks := C.locks
  exact W.aret (v := .ref a) C.1 C.2.1 C.hr (Or.inl ⟨_, rfl⟩) (Or.inr ⟨_, rfl⟩) (fun t ht hW => ⟨⟨(), a, rfl, trivial, rfl, (end_w C w t ht hW).1⟩, (end_w C w t ht hW).2⟩) w.2.2.2.2 hdg
/-! one row an instruction -/
theorem q_iadd {a b : Int} (C : Cx p s m args meth c cc nL own Ts D tys A ret) (hdg : decode cc pc = .ok (.iadd, 1)) (kk : W p l e R s m args below meth c H locs cells slots Q (F0 m (pc + 1) ls (.int (jj (a + b)) :: rest))) : W p l e R s m args below meth c H locs cells slots Q (F0 m pc ls (.int (jj b) :: .int (jj a) :: rest)) :=
  lv_iadd C.1 C.2.1 hdg (by rw [jj_add]; exact kk)
theorem q_isub {a b : Int} (C : Cx p s m args meth c cc nL own Ts D tys A ret) (hdg : decode cc pc = .ok (.isub, 1)) (kk : W p l e R s m args below meth c H locs cells slots Q (F0 m (pc + 1) ls (.int (jj (a - b)) :: rest))) : W p l e R s m args below meth c H locs cells slots Q (F0 m pc ls (.int (jj b) :: .int (jj a) :: rest)) :=
  lv_isub C.1 C.2.1 hdg (by rw [jj_sub]; exact kk)
theorem q_imul {a b : Int} (C : Cx p s m args meth c cc nL own Ts D tys A ret) (hdg : decode cc pc = .ok (.imul, 1)) (kk : W p l e R s m args below meth c H locs cells slots Q (F0 m (pc + 1) ls (.int (jj (a * b)) :: rest))) : W p l e R s m args below meth c H locs cells slots Q (F0 m pc ls (.int (jj b) :: .int (jj a) :: rest)) :=
  lv_imul C.1 C.2.1 hdg (by rw [jj_mul]; exact kk)
theorem q_ineg {a : Int} (C : Cx p s m args meth c cc nL own Ts D tys A ret) (hdg : decode cc pc = .ok (.ineg, 1)) (kk : W p l e R s m args below meth c H locs cells slots Q (F0 m (pc + 1) ls (.int (jj (-a)) :: rest))) : W p l e R s m args below meth c H locs cells slots Q (F0 m pc ls (.int (jj a) :: rest)) :=
  lv_ineg C.1 C.2.1 hdg (by rw [jj_neg]; exact kk)
theorem q_idiv {a b : Int} (C : Cx p s m args meth c cc nL own Ts D tys A ret) (hdg : decode cc pc = .ok (.idiv, 1)) (ha : 0 ≤ a ∧ a ≤ 2147483647) (hb : 0 < b ∧ b ≤ 2147483647) (kk : W p l e R s m args below meth c H locs cells slots Q (F0 m (pc + 1) ls (.int (jj (a / b)) :: rest))) : W p l e R s m args below meth c H locs cells slots Q (F0 m pc ls (.int (jj b) :: .int (jj a) :: rest)) :=
  lv_idiv C.1 C.2.1 hdg (fun h => by
    have h2 : jj b = jj 0 := h
    rw [jj_inj (by omega) (by omega) (by omega) (by omega)] at h2
    omega) (by rw [jj_div ha.1 ha.2 hb.1 hb.2]; exact kk)
theorem q_iconst {n : Int} (C : Cx p s m args meth c cc nL own Ts D tys A ret) (hdg : decode cc pc = .ok (.iconst n, 1)) (kk : W p l e R s m args below meth c H locs cells slots Q (F0 m (pc + 1) ls (.int (jj n) :: rest))) : W p l e R s m args below meth c H locs cells slots Q (F0 m pc ls rest) :=
  lv_iconst (v := jj n) C.1 C.2.1 hdg rfl kk
theorem q_bipush {n : Int} (C : Cx p s m args meth c cc nL own Ts D tys A ret) (hdg : decode cc pc = .ok (.bipush n, 2)) (hv : (Int8.ofInt n).toInt32 = jj n) (kk : W p l e R s m args below meth c H locs cells slots Q (F0 m (pc + 2) ls (.int (jj n) :: rest))) : W p l e R s m args below meth c H locs cells slots Q (F0 m pc ls rest) :=
  lv_bipush (v := jj n) C.1 C.2.1 hdg hv kk
theorem q_sipush {n : Int} (C : Cx p s m args meth c cc nL own Ts D tys A ret) (hdg : decode cc pc = .ok (.sipush n, 3)) (hv : (Int16.ofInt n).toInt32 = jj n) (kk : W p l e R s m args below meth c H locs cells slots Q (F0 m (pc + 3) ls (.int (jj n) :: rest))) : W p l e R s m args below meth c H locs cells slots Q (F0 m pc ls rest) :=
  lv_sipush (v := jj n) C.1 C.2.1 hdg hv kk
theorem q_iload_n {k : Fin 4} {i : Nat} {x : Int32} {lv : List (Nat × Value)} (C : Cx p s m args meth c cc nL own Ts D tys A ret) (hl : lv_has ls nL lv) (hdg : decode cc pc = .ok (.iload_n k, 1)) (hi : (k : Nat) = i) (j : Nat) (hj : lv[j]? = some (i, .int x)) (kk : W p l e R s m args below meth c H locs cells slots Q (F0 m (pc + 1) ls (.int x :: rest))) : W p l e R s m args below meth c H locs cells slots Q (F0 m pc ls rest) :=
  lv_iload_n C.1 C.2.1 hdg hi (lv_at hl j hj) kk
theorem q_iload {i : Nat} {x : Int32} {lv : List (Nat × Value)} (C : Cx p s m args meth c cc nL own Ts D tys A ret) (hl : lv_has ls nL lv) (hdg : decode cc pc = .ok (.iload i, 2)) (j : Nat) (hj : lv[j]? = some (i, .int x)) (kk : W p l e R s m args below meth c H locs cells slots Q (F0 m (pc + 2) ls (.int x :: rest))) : W p l e R s m args below meth c H locs cells slots Q (F0 m pc ls rest) :=
  lv_iload C.1 C.2.1 hdg (lv_at hl j hj) kk
theorem q_aload_n {k : Fin 4} {i : Nat} {x : Nat} {lv : List (Nat × Value)} (C : Cx p s m args meth c cc nL own Ts D tys A ret) (hl : lv_has ls nL lv) (hdg : decode cc pc = .ok (.aload_n k, 1)) (hi : (k : Nat) = i) (j : Nat) (hj : lv[j]? = some (i, .ref x)) (kk : W p l e R s m args below meth c H locs cells slots Q (F0 m (pc + 1) ls (.ref x :: rest))) : W p l e R s m args below meth c H locs cells slots Q (F0 m pc ls rest) :=
  lv_aload_n C.1 C.2.1 hdg hi (lv_at hl j hj) kk
theorem q_istore_n {k : Fin 4} {i : Nat} {x : Int32} {lv lv' : List (Nat × Value)} (C : Cx p s m args meth c cc nL own Ts D tys A ret) (hl : lv_has ls nL lv) (hdg : decode cc pc = .ok (.istore_n k, 1)) (hi : (k : Nat) = i) (hn : i < nL) (h' : (i, Value.int x) :: lv.filter (fun q => !(q.1 == i) && !(q.1 + 1 == i && q.2.category == 2)) = lv') (kk : ∀ ls' : Array Slot, lv_has ls' nL lv' → W p l e R s m args below meth c H locs cells slots Q (F0 m (pc + 1) ls' rest)) : W p l e R s m args below meth c H locs cells slots Q (F0 m pc ls (.int x :: rest)) :=
  lv_istore_n C.1 C.2.1 hdg hi hl hn h' kk
theorem q_istore {i : Nat} {x : Int32} {lv lv' : List (Nat × Value)} (C : Cx p s m args meth c cc nL own Ts D tys A ret) (hl : lv_has ls nL lv) (hdg : decode cc pc = .ok (.istore i, 2)) (hn : i < nL) (h' : (i, Value.int x) :: lv.filter (fun q => !(q.1 == i) && !(q.1 + 1 == i && q.2.category == 2)) = lv') (kk : ∀ ls' : Array Slot, lv_has ls' nL lv' → W p l e R s m args below meth c H locs cells slots Q (F0 m (pc + 2) ls' rest)) : W p l e R s m args below meth c H locs cells slots Q (F0 m pc ls (.int x :: rest)) :=
  lv_istore C.1 C.2.1 hdg hl hn h' kk
theorem q_iinc {i : Nat} {n x : Int} {lv lv' : List (Nat × Value)} (C : Cx p s m args meth c cc nL own Ts D tys A ret) (hl : lv_has ls nL lv) (hdg : decode cc pc = .ok (.iinc i n, 3)) (j : Nat) (hj : lv[j]? = some (i, .int (jj x))) (hn : i < nL) (h' : (i, Value.int (jj (x + n))) :: lv.filter (fun q => !(q.1 == i) && !(q.1 + 1 == i && q.2.category == 2)) = lv') (kk : ∀ ls' : Array Slot, lv_has ls' nL lv' → W p l e R s m args below meth c H locs cells slots Q (F0 m (pc + 3) ls' rest)) : W p l e R s m args below meth c H locs cells slots Q (F0 m pc ls rest) :=
  lv_iinc C.1 C.2.1 hdg hl hj (jj_add x n) hn h' kk
theorem q_goto {off : Int} {tgt : Nat} (C : Cx p s m args meth c cc nL own Ts D tys A ret) (hdg : decode cc pc = .ok (.goto off, 3)) (ht : (pc : Int) + off = (tgt : Int)) (kk : W p l e R s m args below meth c H locs cells slots Q (F0 m tgt ls rest)) : W p l e R s m args below meth c H locs cells slots Q (F0 m pc ls rest) :=
  lv_goto C.1 C.2.1 hdg ht kk
theorem q_dup {v : Value} (C : Cx p s m args meth c cc nL own Ts D tys A ret) (hdg : decode cc pc = .ok (.dup, 1)) (hv : v.category = 1) (kk : W p l e R s m args below meth c H locs cells slots Q (F0 m (pc + 1) ls (v :: v :: rest))) : W p l e R s m args below meth c H locs cells slots Q (F0 m pc ls (v :: rest)) :=
  lv_dup C.1 C.2.1 hdg hv kk
theorem q_dup2 {va vb : Value} (C : Cx p s m args meth c cc nL own Ts D tys A ret) (hdg : decode cc pc = .ok (.dup2, 1)) (hva : va.category = 1) (hvb : vb.category = 1) (kk : W p l e R s m args below meth c H locs cells slots Q (F0 m (pc + 1) ls (va :: vb :: va :: vb :: rest))) : W p l e R s m args below meth c H locs cells slots Q (F0 m pc ls (va :: vb :: rest)) :=
  lv_dup2_11 C.1 C.2.1 hdg hva hvb kk
/-! branches: 'Bd x': x is an int -/
def Bd (x : Int) : Prop := -2147483648 ≤ x ∧ x ≤ 2147483647
theorem q_icmp_ge {x y : Int} {off : Int} {tgt : Nat} (C : Cx p s m args meth c cc nL own Ts D tys A ret) (hdg : decode cc pc = .ok (.if_icmp .ge off, 3)) (ht : (pc : Int) + off = (tgt : Int)) (hx : Bd x) (hy : Bd y)
    (kt : y ≤ x → W p l e R s m args below meth c H locs cells slots Q (F0 m tgt ls rest)) (kf : x < y → W p l e R s m args below meth c H locs cells slots Q (F0 m (pc + 3) ls rest)) : W p l e R s m args below meth c H locs cells slots Q (F0 m pc ls (.int (jj y) :: .int (jj x) :: rest)) :=
  lv_icmp_ge C.1 C.2.1 hdg ht (fun h => kt ((jj_le hy.1 hy.2 hx.1 hx.2).mp h)) (fun h => kf (by have := mt (jj_le hy.1 hy.2 hx.1 hx.2).mpr h; omega))
theorem q_icmp_lt {x y : Int} {off : Int} {tgt : Nat} (C : Cx p s m args meth c cc nL own Ts D tys A ret) (hdg : decode cc pc = .ok (.if_icmp .lt off, 3)) (ht : (pc : Int) + off = (tgt : Int)) (hx : Bd x) (hy : Bd y)
    (kt : x < y → W p l e R s m args below meth c H locs cells slots Q (F0 m tgt ls rest)) (kf : y ≤ x → W p l e R s m args below meth c H locs cells slots Q (F0 m (pc + 3) ls rest)) : W p l e R s m args below meth c H locs cells slots Q (F0 m pc ls (.int (jj y) :: .int (jj x) :: rest)) :=
  lv_icmp_lt C.1 C.2.1 hdg ht (fun h => kt ((jj_lt hx.1 hx.2 hy.1 hy.2).mp h)) (fun h => kf (by have := mt (jj_lt hx.1 hx.2 hy.1 hy.2).mpr h; omega))
theorem q_icmp_le {x y : Int} {off : Int} {tgt : Nat} (C : Cx p s m args meth c cc nL own Ts D tys A ret) (hdg : decode cc pc = .ok (.if_icmp .le off, 3)) (ht : (pc : Int) + off = (tgt : Int)) (hx : Bd x) (hy : Bd y)
    (kt : x ≤ y → W p l e R s m args below meth c H locs cells slots Q (F0 m tgt ls rest)) (kf : y < x → W p l e R s m args below meth c H locs cells slots Q (F0 m (pc + 3) ls rest)) : W p l e R s m args below meth c H locs cells slots Q (F0 m pc ls (.int (jj y) :: .int (jj x) :: rest)) :=
  lv_icmp_le C.1 C.2.1 hdg ht (fun h => kt ((jj_le hx.1 hx.2 hy.1 hy.2).mp h)) (fun h => kf (by have := mt (jj_le hx.1 hx.2 hy.1 hy.2).mpr h; omega))
theorem q_icmp_gt {x y : Int} {off : Int} {tgt : Nat} (C : Cx p s m args meth c cc nL own Ts D tys A ret) (hdg : decode cc pc = .ok (.if_icmp .gt off, 3)) (ht : (pc : Int) + off = (tgt : Int)) (hx : Bd x) (hy : Bd y)
    (kt : y < x → W p l e R s m args below meth c H locs cells slots Q (F0 m tgt ls rest)) (kf : x ≤ y → W p l e R s m args below meth c H locs cells slots Q (F0 m (pc + 3) ls rest)) : W p l e R s m args below meth c H locs cells slots Q (F0 m pc ls (.int (jj y) :: .int (jj x) :: rest)) :=
  lv_icmp_gt C.1 C.2.1 hdg ht (fun h => kt ((jj_lt hy.1 hy.2 hx.1 hx.2).mp h)) (fun h => kf (by have := mt (jj_lt hy.1 hy.2 hx.1 hx.2).mpr h; omega))
theorem q_icmp_eq {x y : Int} {off : Int} {tgt : Nat} (C : Cx p s m args meth c cc nL own Ts D tys A ret) (hdg : decode cc pc = .ok (.if_icmp .eq off, 3)) (ht : (pc : Int) + off = (tgt : Int)) (hx : Bd x) (hy : Bd y)
    (kt : x = y → W p l e R s m args below meth c H locs cells slots Q (F0 m tgt ls rest)) (kf : x ≠ y → W p l e R s m args below meth c H locs cells slots Q (F0 m (pc + 3) ls rest)) : W p l e R s m args below meth c H locs cells slots Q (F0 m pc ls (.int (jj y) :: .int (jj x) :: rest)) :=
  lv_icmp_eq C.1 C.2.1 hdg ht (fun h => kt ((jj_inj hx.1 hx.2 hy.1 hy.2).mp h)) (fun h => kf (mt (jj_inj hx.1 hx.2 hy.1 hy.2).mpr h))
theorem q_icmp_ne {x y : Int} {off : Int} {tgt : Nat} (C : Cx p s m args meth c cc nL own Ts D tys A ret) (hdg : decode cc pc = .ok (.if_icmp .ne off, 3)) (ht : (pc : Int) + off = (tgt : Int)) (hx : Bd x) (hy : Bd y)
    (kt : x ≠ y → W p l e R s m args below meth c H locs cells slots Q (F0 m tgt ls rest)) (kf : x = y → W p l e R s m args below meth c H locs cells slots Q (F0 m (pc + 3) ls rest)) : W p l e R s m args below meth c H locs cells slots Q (F0 m pc ls (.int (jj y) :: .int (jj x) :: rest)) :=
  lv_icmp_ne C.1 C.2.1 hdg ht (fun h => kt (mt (jj_inj hx.1 hx.2 hy.1 hy.2).mpr h)) (fun h => kf ((jj_inj hx.1 hx.2 hy.1 hy.2).mp (by first | exact h | exact Classical.not_not.mp h)))
theorem jj_0 : (0 : Int32) = jj 0 := rfl
theorem q_if_eq {x : Int} {off : Int} {tgt : Nat} (C : Cx p s m args meth c cc nL own Ts D tys A ret) (hdg : decode cc pc = .ok (.ifCond .eq off, 3)) (ht : (pc : Int) + off = (tgt : Int)) (hx : Bd x)
    (kt : x = 0 → W p l e R s m args below meth c H locs cells slots Q (F0 m tgt ls rest)) (kf : x ≠ 0 → W p l e R s m args below meth c H locs cells slots Q (F0 m (pc + 3) ls rest)) : W p l e R s m args below meth c H locs cells slots Q (F0 m pc ls (.int (jj x) :: rest)) :=
  lv_if_eq C.1 C.2.1 hdg ht (fun h => kt ((jj_inj hx.1 hx.2 (by omega) (by omega)).mp h)) (fun h => kf (mt (jj_inj hx.1 hx.2 (by omega) (by omega)).mpr h))
theorem q_if_ne {x : Int} {off : Int} {tgt : Nat} (C : Cx p s m args meth c cc nL own Ts D tys A ret) (hdg : decode cc pc = .ok (.ifCond .ne off, 3)) (ht : (pc : Int) + off = (tgt : Int)) (hx : Bd x)
    (kt : x ≠ 0 → W p l e R s m args below meth c H locs cells slots Q (F0 m tgt ls rest)) (kf : x = 0 → W p l e R s m args below meth c H locs cells slots Q (F0 m (pc + 3) ls rest)) : W p l e R s m args below meth c H locs cells slots Q (F0 m pc ls (.int (jj x) :: rest)) :=
  lv_if_ne C.1 C.2.1 hdg ht (fun h => kt (mt (jj_inj hx.1 hx.2 (by omega) (by omega)).mpr h)) (fun h => kf ((jj_inj hx.1 hx.2 (by omega) (by omega)).mp h))
theorem q_ifz_eq {P : Prop} [Decidable P] {off : Int} {tgt : Nat} (C : Cx p s m args meth c cc nL own Ts D tys A ret) (hdg : decode cc pc = .ok (.ifCond .eq off, 3)) (ht : (pc : Int) + off = (tgt : Int))
    (kt : ¬ P → W p l e R s m args below meth c H locs cells slots Q (F0 m tgt ls rest)) (kf : P → W p l e R s m args below meth c H locs cells slots Q (F0 m (pc + 3) ls rest)) : W p l e R s m args below meth c H locs cells slots Q (F0 m pc ls (.int (jj (bI P)) :: rest)) :=
  lv_if_eq C.1 C.2.1 hdg ht (fun h => kt (bI_0.mp h)) (fun h => kf (Classical.not_not.mp (mt bI_0.mpr h)))
theorem q_ifz_ne {P : Prop} [Decidable P] {off : Int} {tgt : Nat} (C : Cx p s m args meth c cc nL own Ts D tys A ret) (hdg : decode cc pc = .ok (.ifCond .ne off, 3)) (ht : (pc : Int) + off = (tgt : Int))
    (kt : P → W p l e R s m args below meth c H locs cells slots Q (F0 m tgt ls rest)) (kf : ¬ P → W p l e R s m args below meth c H locs cells slots Q (F0 m (pc + 3) ls rest)) : W p l e R s m args below meth c H locs cells slots Q (F0 m pc ls (.int (jj (bI P)) :: rest)) :=
  lv_if_ne C.1 C.2.1 hdg ht (fun h => kt (Classical.not_not.mp (mt bI_0.mpr h))) (fun h => kf (bI_0.mp h))
theorem q_if_lt {x : Int} {off : Int} {tgt : Nat} (C : Cx p s m args meth c cc nL own Ts D tys A ret) (hdg : decode cc pc = .ok (.ifCond .lt off, 3)) (ht : (pc : Int) + off = (tgt : Int)) (hx : Bd x)
    (kt : x < 0 → W p l e R s m args below meth c H locs cells slots Q (F0 m tgt ls rest)) (kf : 0 ≤ x → W p l e R s m args below meth c H locs cells slots Q (F0 m (pc + 3) ls rest)) : W p l e R s m args below meth c H locs cells slots Q (F0 m pc ls (.int (jj x) :: rest)) :=
  lv_if_lt C.1 C.2.1 hdg ht (fun h => kt ((jj_lt hx.1 hx.2 (by omega) (by omega)).mp h)) (fun h => kf (by have := mt (jj_lt (b := 0) hx.1 hx.2 (by omega) (by omega)).mpr h; omega))
theorem q_if_ge {x : Int} {off : Int} {tgt : Nat} (C : Cx p s m args meth c cc nL own Ts D tys A ret) (hdg : decode cc pc = .ok (.ifCond .ge off, 3)) (ht : (pc : Int) + off = (tgt : Int)) (hx : Bd x)
    (kt : 0 ≤ x → W p l e R s m args below meth c H locs cells slots Q (F0 m tgt ls rest)) (kf : x < 0 → W p l e R s m args below meth c H locs cells slots Q (F0 m (pc + 3) ls rest)) : W p l e R s m args below meth c H locs cells slots Q (F0 m pc ls (.int (jj x) :: rest)) :=
  lv_if_ge C.1 C.2.1 hdg ht (fun h => kt ((jj_le (a := 0) (by omega) (by omega) hx.1 hx.2).mp h)) (fun h => kf (by have := mt (jj_le (a := 0) (by omega) (by omega) hx.1 hx.2).mpr h; omega))
theorem q_if_gt {x : Int} {off : Int} {tgt : Nat} (C : Cx p s m args meth c cc nL own Ts D tys A ret) (hdg : decode cc pc = .ok (.ifCond .gt off, 3)) (ht : (pc : Int) + off = (tgt : Int)) (hx : Bd x)
    (kt : 0 < x → W p l e R s m args below meth c H locs cells slots Q (F0 m tgt ls rest)) (kf : x ≤ 0 → W p l e R s m args below meth c H locs cells slots Q (F0 m (pc + 3) ls rest)) : W p l e R s m args below meth c H locs cells slots Q (F0 m pc ls (.int (jj x) :: rest)) :=
  lv_if_gt C.1 C.2.1 hdg ht (fun h => kt ((jj_lt (a := 0) (by omega) (by omega) hx.1 hx.2).mp h)) (fun h => kf (by have := mt (jj_lt (a := 0) (by omega) (by omega) hx.1 hx.2).mpr h; omega))
theorem q_if_le {x : Int} {off : Int} {tgt : Nat} (C : Cx p s m args meth c cc nL own Ts D tys A ret) (hdg : decode cc pc = .ok (.ifCond .le off, 3)) (ht : (pc : Int) + off = (tgt : Int)) (hx : Bd x)
    (kt : x ≤ 0 → W p l e R s m args below meth c H locs cells slots Q (F0 m tgt ls rest)) (kf : 0 < x → W p l e R s m args below meth c H locs cells slots Q (F0 m (pc + 3) ls rest)) : W p l e R s m args below meth c H locs cells slots Q (F0 m pc ls (.int (jj x) :: rest)) :=
  lv_if_le C.1 C.2.1 hdg ht (fun h => kt ((jj_le (b := 0) hx.1 hx.2 (by omega) (by omega)).mp h)) (fun h => kf (by have := mt (jj_le (b := 0) hx.1 hx.2 (by omega) (by omega)).mpr h; omega))
/-! fields and arrays -/
theorem q_get {Cn : String} {T : u_T} {N ci index a : Nat} {fs : List Value} {v : Value} (C : Cx p s m args meth c cc nL own Ts D tys A ret) (hP : va_P D vwCl ws H) (hin : ∀ w ∈ u_ws Cn T N, w ∈ Ts) (q0 : Nat) (he : ws[q0]? = some (a, .inr (ci, fs))) (hc : vwCl[ci]? = some (Cn, T, N)) (k : Nat) (hk : k < N) (hlink : Cond.fieldLink own index (T k).1 (T k).2.1 (T k).2.2.1 ∈ Ts) (hv : fs[k]? = some v) (hdg : decode cc pc = .ok (.getfield index, 3))
    (kk : W p l e R s m args below meth c H locs cells slots Q (F0 m (pc + 3) ls (v :: rest))) : W p l e R s m args below meth c H locs cells slots Q (F0 m pc ls (.ref a :: rest)) :=
  va_get C.1 C.2.1 C.ts hin C.ho C.K hP q0 he hc k hk (C.ts _ hlink) (fun _ h => h) hv hdg kk
theorem q_put {Cn : String} {T : u_T} {N ci index a : Nat} {fs : List Value} {v : Value} {ty : FieldType} (C : Cx p s m args meth c cc nL own Ts D tys A ret) (w : Wd D A s ws H locs) (hin : ∀ w ∈ u_ws Cn T N, w ∈ Ts) (ty0 : Nat → FieldType) (hty : ∀ k, k < N → parseFieldDescriptor (T k).2.2.1 = some (ty0 k)) (hnm : ∀ a, a < N → ∀ b, b < N → a ≠ b → (T a).2.1 ≠ (T b).2.1)
    (q0 : Nat) (he : ws[q0]? = some (a, .inr (ci, fs))) (hc : vwCl[ci]? = some (Cn, T, N)) (k : Nat) (hk : k < N) (hlink : Cond.fieldLink own index (T k).1 (T k).2.1 (T k).2.2.1 ∈ Ts) (hfin : (T k).2.2.2 = false) (hd : parseFieldDescriptor (T k).2.2.1 = some ty) (hn : narrow ty v = v) (hfit : fits ty v = true) (hl : k < fs.length) (hdg : decode cc pc = .ok (.putfield index, 3))
    (hw : ws.set q0 (a, .inr (ci, fs.set k v)) = ws')
    (kk : ∀ (H1 : Heap) (locs1 : List Loc), Wd D A s ws' H1 locs1 → W p l e R s m args below meth c H1 locs1 cells slots Q (F0 m (pc + 3) ls rest)) : W p l e R s m args below meth c H locs cells slots Q (F0 m pc ls (v :: .ref a :: rest)) :=
  va_put C.1 C.2.1 C.ts hin ty0 hty hnm C.ho C.K w.1 w.2.1 w.2.2 q0 he hc k hk (C.ts _ hlink) (fun _ h => h) hfin hd hn hfit hl hdg (fun H1 locs1 hP hD hS => by subst hw; exact kk H1 locs1 ⟨hP, hD, hS⟩)
theorem q_iald {a n : Nat} {cA : ClassId} {f : Int → Int} {i : Int} (C : Cx p s m args meth c cc nL own Ts D tys A ret) (hP : va_P D vwCl ws H) (q0 t0 : Nat) (ha : ws[q0]? = some (a, .inl (cA, n, .inl (ac f)))) (ht : tys[t0]? = some (cA, .int)) (hi : 0 ≤ i ∧ i < n ∧ i ≤ 2147483647) (hdg : decode cc pc = .ok (.iaload, 1))
    (kk : W p l e R s m args below meth c H locs cells slots Q (F0 m (pc + 1) ls (.int (jj (f i)) :: rest))) : W p l e R s m args below meth c H locs cells slots Q (F0 m pc ls (.int (jj i) :: .ref a :: rest)) :=
  va_iald C.1 C.2.1 C.K hP q0 t0 ha ht (jj_in hi.1 hi.2.1 hi.2.2) hdg (by rw [ac_ld f hi.1 hi.2.2]; exact kk)
theorem q_cald {a n : Nat} {cA : ClassId} {f : Int → Int} {i : Int} (C : Cx p s m args meth c cc nL own Ts D tys A ret) (hP : va_P D vwCl ws H) (q0 t0 : Nat) (ha : ws[q0]? = some (a, .inl (cA, n, .inl (ac f)))) (ht : tys[t0]? = some (cA, .char)) (hi : 0 ≤ i ∧ i < n ∧ i ≤ 2147483647) (hdg : decode cc pc = .ok (.caload, 1))
    (kk : W p l e R s m args below meth c H locs cells slots Q (F0 m (pc + 1) ls (.int (jj (f i)) :: rest))) : W p l e R s m args below meth c H locs cells slots Q (F0 m pc ls (.int (jj i) :: .ref a :: rest)) :=
  va_cald C.1 C.2.1 C.K hP q0 t0 ha ht (jj_in hi.1 hi.2.1 hi.2.2) hdg (by rw [ac_ld f hi.1 hi.2.2]; exact kk)
theorem q_iast {a n : Nat} {cA : ClassId} {f : Int → Int} {i x : Int} (C : Cx p s m args meth c cc nL own Ts D tys A ret) (w : Wd D A s ws H locs) (q0 t0 : Nat) (ha : ws[q0]? = some (a, .inl (cA, n, .inl (ac f)))) (ht : tys[t0]? = some (cA, .int)) (hi : 0 ≤ i ∧ i < n ∧ i ≤ 2147483647) (hdg : decode cc pc = .ok (.iastore, 1))
    (hw : ws.set q0 (a, .inl (cA, n, .inl (ac (up f i x)))) = ws')
    (kk : ∀ (H1 : Heap) (locs1 : List Loc), Wd D A s ws' H1 locs1 → W p l e R s m args below meth c H1 locs1 cells slots Q (F0 m (pc + 1) ls rest)) : W p l e R s m args below meth c H locs cells slots Q (F0 m pc ls (.int (jj x) :: .int (jj i) :: .ref a :: rest)) :=
  va_iast C.1 C.2.1 C.K w.1 w.2.1 w.2.2 q0 t0 ha ht (jj_in hi.1 hi.2.1 hi.2.2) hdg (fun H1 locs1 hP hD hS => by rw [ac_st f x hi.1 hi.2.2] at hP hD; subst hw; exact kk H1 locs1 ⟨hP, hD, hS⟩)
theorem q_mmax {x y : Int} {index : Nat} {lv : List (Nat × Value)} (C : Cx p s m args meth c cc nL own Ts D tys A ret) (hl : lv_has ls nL lv) (hlink : Cond.methodLink own index Lib.Math.max.name ∈ Ts) (hstat : Cond.static Lib.Math.max.name ∈ Ts) (hini : Cond.initialized "java/lang/Math" ∈ Ts) (hcode : Cond.code Lib.Math.max.name Lib.Math.max.code 2 (some .int) ∈ Ts) (hx : Bd x) (hy : Bd y)
    (hframes : 1 ≤ R.frames) (hlocals : (rest.map fun v => v.category).sum + 13 ≤ R.locals) (hc : cells ≤ R.cells) (hs : slots ≤ R.slots) (hdg : decode cc pc = .ok (.invokestatic index, 3))
    (kk : W p l e R s m args below meth c H locs cells slots Q (F0 m (pc + 3) ls (.int (jj (max x y)) :: rest))) : W p l e R s m args below meth c H locs cells slots Q (F0 m pc ls (.int (jj y) :: .int (jj x) :: rest)) := by
  refine va_mmax C.1 C.2.1 (C.2.2.1.trans hl.1.symm) C.ho (C.ts _ hlink) (C.ts _ hstat) (C.ts _ hini) (C.ts _ hcode) hframes hlocals hc hs hdg ?_
  have e : (if jj x < jj y then jj y else jj x) = jj (max x y) := by
    have := jj_lt hx.1 hx.2 hy.1 hy.2
    by_cases h : x < y
    · rw [if_pos (this.mpr h), show max x y = y by omega]
    · rw [if_neg (mt this.mp h), show max x y = x by omega]
  rw [e]; exact kk
theorem q_mmin {x y : Int} {index : Nat} {lv : List (Nat × Value)} (C : Cx p s m args meth c cc nL own Ts D tys A ret) (hl : lv_has ls nL lv) (hlink : Cond.methodLink own index Lib.Math.min.name ∈ Ts) (hstat : Cond.static Lib.Math.min.name ∈ Ts) (hini : Cond.initialized "java/lang/Math" ∈ Ts) (hcode : Cond.code Lib.Math.min.name Lib.Math.min.code 2 (some .int) ∈ Ts) (hx : Bd x) (hy : Bd y)
    (hframes : 1 ≤ R.frames) (hlocals : (rest.map fun v => v.category).sum + 13 ≤ R.locals) (hc : cells ≤ R.cells) (hs : slots ≤ R.slots) (hdg : decode cc pc = .ok (.invokestatic index, 3))
    (kk : W p l e R s m args below meth c H locs cells slots Q (F0 m (pc + 3) ls (.int (jj (min x y)) :: rest))) : W p l e R s m args below meth c H locs cells slots Q (F0 m pc ls (.int (jj y) :: .int (jj x) :: rest)) := by
  refine va_mmin C.1 C.2.1 (C.2.2.1.trans hl.1.symm) C.ho (C.ts _ hlink) (C.ts _ hstat) (C.ts _ hini) (C.ts _ hcode) hframes hlocals hc hs hdg ?_
  have e : (if jj y < jj x then jj y else jj x) = jj (min x y) := by
    have := jj_lt hy.1 hy.2 hx.1 hx.2
    by_cases h : y < x
    · rw [if_pos (this.mpr h), show min x y = y by omega]
    · rw [if_neg (mt this.mp h), show min x y = x by omega]
  rw [e]; exact kk
end QQ
end
section
/-! The cells of a model and of a State, and their rows. -/
abbrev tz (cI cC cS : ClassId) : List (ClassId × FieldType) := [(cI, .int), (cC, .char), (cS, .object RX1)]
/-- a State: its rows, by σ: 0 to 9 the counts, 10 to 12 the settings, 13 + 6 p + k what k tells of the place p -/
def sg (σ : Int → Int) (i : Int) : Int := if 0 ≤ i ∧ i < 3 then σ (10 + i) else 0
def rr (σ : Int → Int) (k : Int) : Int → Int := fun i => σ (13 + 6 * i + k)
def sFs (ad : Nat → Nat) (σ : Int → Int) : List Value := [.ref (ad 0), .ref (ad 1), .ref (ad 2), .ref (ad 3), .ref (ad 4), .ref (ad 5), .ref (ad 6), .int (jj (σ 0)), .int (jj (σ 1)), .int (jj (σ 2)), .int (jj (σ 3)), .int (jj (σ 4)), .int (jj (σ 5)), .int (jj (σ 6)), .int (jj (σ 7)), .int (jj (σ 8)), .int (jj (σ 9))]
def cSt (cI : ClassId) (h : Nat) (ad : Nat → Nat) (σ : Int → Int) : va_W := [(h, .inr (1, sFs ad σ)), (ad 0, .inl (cI, 16, .inl (ac (rr σ 0)))), (ad 1, .inl (cI, 16, .inl (ac (rr σ 1)))), (ad 2, .inl (cI, 16, .inl (ac (rr σ 2)))), (ad 3, .inl (cI, 16, .inl (ac (rr σ 3)))), (ad 4, .inl (cI, 16, .inl (ac (rr σ 4)))), (ad 5, .inl (cI, 16, .inl (ac (rr σ 5)))), (ad 6, .inl (cI, 3, .inl (ac (sg σ))))]
/-! changes of a model's object -/
/-! changes of a State -/
theorem rr_lo (σ : Int → Int) (k : Int) {i : Int} (v : Int) (hk : 0 ≤ k) (h : i < 13) : ac (rr (up σ i v) k) = ac (rr σ k) := by
  funext j; unfold ac rr; rw [up_n]; omega
theorem sg_lo (σ : Int → Int) {i : Int} (v : Int) (h : i < 10) : sg (up σ i v) = sg σ := by
  funext j; unfold sg; split
  · rw [up_n]; omega
  · rfl
theorem sg_hi (σ : Int → Int) {i : Int} (v : Int) (h : 13 ≤ i) : sg (up σ i v) = sg σ := by
  funext j; unfold sg; split
  · rw [up_n]; omega
  · rfl
theorem sg_up (σ : Int → Int) {i : Int} (v : Int) (h0 : 0 ≤ i) (h : i < 3) : sg (up σ (10 + i) v) = up (sg σ) i v := by
  funext j; show (if 0 ≤ j ∧ j < 3 then up σ (10 + i) v (10 + j) else 0) = if j = i then v else (if 0 ≤ j ∧ j < 3 then σ (10 + j) else 0)
  unfold up
  by_cases e : j = i
  · rw [if_pos (by omega), if_pos (by omega), if_pos e]
  · rw [if_neg (show ¬ (10 + j = 10 + i) by omega), if_neg e]
theorem rr_ne (σ : Int → Int) {k k' : Int} (p v : Int) (h0 : 0 ≤ k) (h1 : k < 6) (h2 : 0 ≤ k') (h3 : k' < 6) (hne : k ≠ k') : rr (up σ (13 + 6 * p + k) v) k' = rr σ k' := by
  funext j; unfold rr; rw [up_n]; omega
theorem rr_eq (σ : Int → Int) (k p v : Int) : rr (up σ (13 + 6 * p + k) v) k = up (rr σ k) p v := by
  funext j; unfold rr up
  by_cases e : j = p
  · rw [if_pos (by omega), if_pos e]
  · rw [if_neg (by omega), if_neg e]
theorem sFs_hi (ad : Nat → Nat) (σ : Int → Int) {i : Int} (v : Int) (h : 10 ≤ i) : sFs ad (up σ i v) = sFs ad σ := by
  unfold sFs
  rw [up_n σ v (show (0:Int) ≠ i by omega), up_n σ v (show (1:Int) ≠ i by omega), up_n σ v (show (2:Int) ≠ i by omega), up_n σ v (show (3:Int) ≠ i by omega), up_n σ v (show (4:Int) ≠ i by omega), up_n σ v (show (5:Int) ≠ i by omega), up_n σ v (show (6:Int) ≠ i by omega), up_n σ v (show (7:Int) ≠ i by omega), up_n σ v (show (8:Int) ≠ i by omega), up_n σ v (show (9:Int) ≠ i by omega)]
theorem sR0 (cI : ClassId) (h : Nat) (ad : Nat → Nat) (σ : Int → Int) (p v : Int) (hp : 0 ≤ p) : (cSt cI h ad σ).set 1 (ad 0, .inl (cI, 16, .inl (ac (up (rr σ 0) p v)))) = cSt cI h ad (up σ (13 + 6 * p + 0) v) := by
  unfold cSt
  rw [sFs_hi ad σ v (by omega), sg_hi σ v (by omega), rr_eq, rr_ne σ p v (by omega) (by omega) (k' := 1) (by omega) (by omega) (by omega), rr_ne σ p v (by omega) (by omega) (k' := 2) (by omega) (by omega) (by omega), rr_ne σ p v (by omega) (by omega) (k' := 3) (by omega) (by omega) (by omega), rr_ne σ p v (by omega) (by omega) (k' := 4) (by omega) (by omega) (by omega), rr_ne σ p v (by omega) (by omega) (k' := 5) (by omega) (by omega) (by omega)]
  rfl
theorem sR1 (cI : ClassId) (h : Nat) (ad : Nat → Nat) (σ : Int → Int) (p v : Int) (hp : 0 ≤ p) : (cSt cI h ad σ).set 2 (ad 1, .inl (cI, 16, .inl (ac (up (rr σ 1) p v)))) = cSt cI h ad (up σ (13 + 6 * p + 1) v) := by
  unfold cSt
  rw [sFs_hi ad σ v (by omega), sg_hi σ v (by omega), rr_eq, rr_ne σ p v (by omega) (by omega) (k' := 0) (by omega) (by omega) (by omega), rr_ne σ p v (by omega) (by omega) (k' := 2) (by omega) (by omega) (by omega), rr_ne σ p v (by omega) (by omega) (k' := 3) (by omega) (by omega) (by omega), rr_ne σ p v (by omega) (by omega) (k' := 4) (by omega) (by omega) (by omega), rr_ne σ p v (by omega) (by omega) (k' := 5) (by omega) (by omega) (by omega)]
  rfl
theorem sR2 (cI : ClassId) (h : Nat) (ad : Nat → Nat) (σ : Int → Int) (p v : Int) (hp : 0 ≤ p) : (cSt cI h ad σ).set 3 (ad 2, .inl (cI, 16, .inl (ac (up (rr σ 2) p v)))) = cSt cI h ad (up σ (13 + 6 * p + 2) v) := by
  unfold cSt
  rw [sFs_hi ad σ v (by omega), sg_hi σ v (by omega), rr_eq, rr_ne σ p v (by omega) (by omega) (k' := 0) (by omega) (by omega) (by omega), rr_ne σ p v (by omega) (by omega) (k' := 1) (by omega) (by omega) (by omega), rr_ne σ p v (by omega) (by omega) (k' := 3) (by omega) (by omega) (by omega), rr_ne σ p v (by omega) (by omega) (k' := 4) (by omega) (by omega) (by omega), rr_ne σ p v (by omega) (by omega) (k' := 5) (by omega) (by omega) (by omega)]
  rfl
theorem sR3 (cI : ClassId) (h : Nat) (ad : Nat → Nat) (σ : Int → Int) (p v : Int) (hp : 0 ≤ p) : (cSt cI h ad σ).set 4 (ad 3, .inl (cI, 16, .inl (ac (up (rr σ 3) p v)))) = cSt cI h ad (up σ (13 + 6 * p + 3) v) := by
  unfold cSt
  rw [sFs_hi ad σ v (by omega), sg_hi σ v (by omega), rr_eq, rr_ne σ p v (by omega) (by omega) (k' := 0) (by omega) (by omega) (by omega), rr_ne σ p v (by omega) (by omega) (k' := 1) (by omega) (by omega) (by omega), rr_ne σ p v (by omega) (by omega) (k' := 2) (by omega) (by omega) (by omega), rr_ne σ p v (by omega) (by omega) (k' := 4) (by omega) (by omega) (by omega), rr_ne σ p v (by omega) (by omega) (k' := 5) (by omega) (by omega) (by omega)]
  rfl
theorem sR4 (cI : ClassId) (h : Nat) (ad : Nat → Nat) (σ : Int → Int) (p v : Int) (hp : 0 ≤ p) : (cSt cI h ad σ).set 5 (ad 4, .inl (cI, 16, .inl (ac (up (rr σ 4) p v)))) = cSt cI h ad (up σ (13 + 6 * p + 4) v) := by
  unfold cSt
  rw [sFs_hi ad σ v (by omega), sg_hi σ v (by omega), rr_eq, rr_ne σ p v (by omega) (by omega) (k' := 0) (by omega) (by omega) (by omega), rr_ne σ p v (by omega) (by omega) (k' := 1) (by omega) (by omega) (by omega), rr_ne σ p v (by omega) (by omega) (k' := 2) (by omega) (by omega) (by omega), rr_ne σ p v (by omega) (by omega) (k' := 3) (by omega) (by omega) (by omega), rr_ne σ p v (by omega) (by omega) (k' := 5) (by omega) (by omega) (by omega)]
  rfl
theorem sR5 (cI : ClassId) (h : Nat) (ad : Nat → Nat) (σ : Int → Int) (p v : Int) (hp : 0 ≤ p) : (cSt cI h ad σ).set 6 (ad 5, .inl (cI, 16, .inl (ac (up (rr σ 5) p v)))) = cSt cI h ad (up σ (13 + 6 * p + 5) v) := by
  unfold cSt
  rw [sFs_hi ad σ v (by omega), sg_hi σ v (by omega), rr_eq, rr_ne σ p v (by omega) (by omega) (k' := 0) (by omega) (by omega) (by omega), rr_ne σ p v (by omega) (by omega) (k' := 1) (by omega) (by omega) (by omega), rr_ne σ p v (by omega) (by omega) (k' := 2) (by omega) (by omega) (by omega), rr_ne σ p v (by omega) (by omega) (k' := 3) (by omega) (by omega) (by omega), rr_ne σ p v (by omega) (by omega) (k' := 4) (by omega) (by omega) (by omega)]
  rfl
theorem sR6 (cI : ClassId) (h : Nat) (ad : Nat → Nat) (σ : Int → Int) (i v : Int) (h0 : 0 ≤ i) (h3 : i < 3) : (cSt cI h ad σ).set 7 (ad 6, .inl (cI, 3, .inl (ac (up (sg σ) i v)))) = cSt cI h ad (up σ (10 + i) v) := by
  unfold cSt
  rw [sFs_hi ad σ v (by omega), sg_up σ v h0 h3, rr_lo σ 0 v (by omega) (by omega), rr_lo σ 1 v (by omega) (by omega), rr_lo σ 2 v (by omega) (by omega), rr_lo σ 3 v (by omega) (by omega), rr_lo σ 4 v (by omega) (by omega), rr_lo σ 5 v (by omega) (by omega)]
  rfl
/-- a count's change: the field 7 + i -/
theorem sPut (cI : ClassId) (h : Nat) (ad : Nat → Nat) (σ : Int → Int) (i : Nat) (v : Int) (hi : i < 10) : (cSt cI h ad σ).set 0 (h, .inr (1, (sFs ad σ).set (7 + i) (.int (jj v)))) = cSt cI h ad (up σ (i : Int) v) := by
  have e : (sFs ad σ).set (7 + i) (.int (jj v)) = sFs ad (up σ (i : Int) v) := by
    match i, hi with
    | 0, _ => simp [sFs, up]
    | 1, _ => simp [sFs, up]
    | 2, _ => simp [sFs, up]
    | 3, _ => simp [sFs, up]
    | 4, _ => simp [sFs, up]
    | 5, _ => simp [sFs, up]
    | 6, _ => simp [sFs, up]
    | 7, _ => simp [sFs, up]
    | 8, _ => simp [sFs, up]
    | 9, _ => simp [sFs, up]
  rw [e]
  unfold cSt
  rw [sg_lo σ v (by omega), rr_lo σ 0 v (by omega) (by omega), rr_lo σ 1 v (by omega) (by omega), rr_lo σ 2 v (by omega) (by omega), rr_lo σ 3 v (by omega) (by omega), rr_lo σ 4 v (by omega) (by omega), rr_lo σ 5 v (by omega) (by omega)]
  rfl
/-- a State is what its 109 numbers are -/
theorem cSt_cong {D : va_G} {cI : ClassId} {h : Nat} {ad : Nat → Nat} {σ σ' : Int → Int} {H : Heap} (e : ∀ k : Int, 0 ≤ k → k < 109 → σ k = σ' k) (hP : va_P D vwCl (cSt cI h ad σ) H) : va_P D vwCl (cSt cI h ad σ') H := by
  have P := vP_iff.mp hP
  have hf : sFs ad σ' = sFs ad σ := by
    unfold sFs
    rw [e 0 (by omega) (by omega), e 1 (by omega) (by omega), e 2 (by omega) (by omega), e 3 (by omega) (by omega), e 4 (by omega) (by omega), e 5 (by omega) (by omega), e 6 (by omega) (by omega), e 7 (by omega) (by omega), e 8 (by omega) (by omega), e 9 (by omega) (by omega)]
  refine vP_iff.mpr (fun q hq => ?_)
  simp only [cSt, List.mem_cons, List.not_mem_nil, or_false] at hq
  have hr : ∀ k : Int, 0 ≤ k → k < 6 → ∀ i : Int, 0 ≤ i → i < ((16 : Nat) : Int) → rr σ k i = rr σ' k i := fun k h0 h6 i hi hi2 => by unfold rr; exact e _ (by omega) (by omega)
  rcases hq with rfl | rfl | rfl | rfl | rfl | rfl | rfl | rfl
  · rw [hf]; exact P _ (by simp [cSt])
  · exact at_ac (hr 0 (by omega) (by omega)) (P _ (by simp [cSt]))
  · exact at_ac (hr 1 (by omega) (by omega)) (P _ (by simp [cSt]))
  · exact at_ac (hr 2 (by omega) (by omega)) (P _ (by simp [cSt]))
  · exact at_ac (hr 3 (by omega) (by omega)) (P _ (by simp [cSt]))
  · exact at_ac (hr 4 (by omega) (by omega)) (P _ (by simp [cSt]))
  · exact at_ac (hr 5 (by omega) (by omega)) (P _ (by simp [cSt]))
  · exact at_ac (f := sg σ) (g := sg σ') (fun i hi hi2 => by unfold sg; rw [if_pos (by omega), if_pos (by omega)]; exact e _ (by omega) (by omega)) (P _ (by simp [cSt]))
theorem cSt_D {A : Nat → Prop} {cI : ClassId} {h : Nat} {ad : Nat → Nat} {σ σ' : Int → Int} (hD : va_D A (cSt cI h ad σ)) : va_D A (cSt cI h ad σ') := by
  rw [vD_iff] at hD ⊢
  simp only [cSt, List.pairwise_cons, List.mem_cons, List.not_mem_nil, or_false, forall_eq_or_imp, forall_eq] at hD ⊢
  exact hD
section QW
variable {p : Program} {l : Launch} {e : Env} {R : Room} {s : State} {m : MethodId} {args : Array Value} {below : List Frame} {meth : Method} {c : Code} {H : Heap} {locs : List Loc} {cells slots : Nat} {Q : State → Prop}
variable {cc : ByteArray} {nL : Nat} {own : String} {Ts : List Cond} {D : va_G} {tys : List (ClassId × FieldType)} {A : Nat → Prop} {ret : Option FieldType} {pc : Nat} {ls : Array Slot} {rest : List Value} {ws ws' : va_W}
variable {cI cC cS : ClassId} {h : Nat} {ad : Nat → Nat} {σ α ς β τ q : Int → Int}
theorem q_getS {index : Nat} {v : Value} (C : Cx p s m args meth c cc nL own Ts D tys A ret) (hP : va_P D vwCl (cSt cI h ad σ) H) (hin : ∀ w ∈ wsX10, w ∈ Ts) (k : Nat) (hk : k < 17) (hlink : Cond.fieldLink own index (TX1 k).1 (TX1 k).2.1 (TX1 k).2.2.1 ∈ Ts) (hv : (sFs ad σ)[k]? = some v) (hdg : decode cc pc = .ok (.getfield index, 3))
    (kk : W p l e R s m args below meth c H locs cells slots Q (F0 m (pc + 3) ls (v :: rest))) : W p l e R s m args below meth c H locs cells slots Q (F0 m pc ls (.ref h :: rest)) :=
  q_get (Cn := RX1) (T := TX1) (N := 17) (ci := 1) C hP hin 0 rfl rfl k hk hlink hv hdg kk
theorem q_putS {index : Nat} {v : Int} (C : Cx p s m args meth c cc nL own Ts D tys A ret) (w : Wd D A s (cSt cI h ad σ) H locs) (hin : ∀ w ∈ wsX10, w ∈ Ts) (i : Nat) (hi : i < 10) (hlink : Cond.fieldLink own index (TX1 (7 + i)).1 (TX1 (7 + i)).2.1 (TX1 (7 + i)).2.2.1 ∈ Ts) (hfin : (TX1 (7 + i)).2.2.2 = false) (hd : parseFieldDescriptor (TX1 (7 + i)).2.2.1 = some .int) (hdg : decode cc pc = .ok (.putfield index, 3))
    (kk : ∀ (H1 : Heap) (locs1 : List Loc), Wd D A s (cSt cI h ad (up σ (i : Int) v)) H1 locs1 → W p l e R s m args below meth c H1 locs1 cells slots Q (F0 m (pc + 3) ls rest)) : W p l e R s m args below meth c H locs cells slots Q (F0 m pc ls (.int (jj v) :: .ref h :: rest)) :=
  q_put (Cn := RX1) (T := TX1) (N := 17) (ci := 1) (fs := sFs ad σ) C w hin tyX1 tyX1_ok nmX1 0 rfl rfl (7 + i) (by omega) hlink hfin hd rfl rfl (by show 7 + i < 17; omega) hdg (sPut cI h ad σ i v hi) kk
/-- a boolean's value as a field takes it -/
theorem nar_b {v : Int} (h : v = 0 ∨ v = 1) : narrow .boolean (.int (jj v)) = .int (jj v) := by
  rcases h with rfl | rfl <;> rfl
theorem nar_bI (P : Prop) [Decidable P] : narrow .boolean (.int (jj (bI P))) = .int (jj (bI P)) := nar_b (by unfold bI; split <;> omega)
/-- a State's rows -/
theorem q_Sld {p0 : Int} (C : Cx p s m args meth c cc nL own Ts D (tz cI cC cS) A ret) (hP : va_P D vwCl (cSt cI h ad σ) H) (q0 : Nat) {a : Nat} (k : Int) (ha : (cSt cI h ad σ)[q0]? = some (a, .inl (cI, 16, .inl (ac (rr σ k))))) (hi : 0 ≤ p0 ∧ p0 < 16) (hdg : decode cc pc = .ok (.iaload, 1))
    (kk : W p l e R s m args below meth c H locs cells slots Q (F0 m (pc + 1) ls (.int (jj (σ (13 + 6 * p0 + k))) :: rest))) : W p l e R s m args below meth c H locs cells slots Q (F0 m pc ls (.int (jj p0) :: .ref a :: rest)) :=
  q_iald (n := 16) (f := rr σ k) C hP q0 0 ha rfl ⟨hi.1, hi.2, by omega⟩ hdg kk
theorem q_Sst {p0 x : Int} (C : Cx p s m args meth c cc nL own Ts D (tz cI cC cS) A ret) (w : Wd D A s (cSt cI h ad σ) H locs) (q0 : Nat) {a : Nat} (k : Int) (ha : (cSt cI h ad σ)[q0]? = some (a, .inl (cI, 16, .inl (ac (rr σ k))))) (hi : 0 ≤ p0 ∧ p0 < 16) (hdg : decode cc pc = .ok (.iastore, 1))
    (hw : (cSt cI h ad σ).set q0 (a, .inl (cI, 16, .inl (ac (up (rr σ k) p0 x)))) = ws')
    (kk : ∀ (H1 : Heap) (locs1 : List Loc), Wd D A s ws' H1 locs1 → W p l e R s m args below meth c H1 locs1 cells slots Q (F0 m (pc + 1) ls rest)) : W p l e R s m args below meth c H locs cells slots Q (F0 m pc ls (.int (jj x) :: .int (jj p0) :: .ref a :: rest)) :=
  q_iast (n := 16) (f := rr σ k) C w q0 0 ha rfl ⟨hi.1, hi.2, by omega⟩ hdg hw kk
theorem q_Stld {i v : Int} (C : Cx p s m args meth c cc nL own Ts D (tz cI cC cS) A ret) (hP : va_P D vwCl (cSt cI h ad σ) H) (hi : 0 ≤ i ∧ i < 3) (hv : σ (10 + i) = v) (hdg : decode cc pc = .ok (.iaload, 1))
    (kk : W p l e R s m args below meth c H locs cells slots Q (F0 m (pc + 1) ls (.int (jj v) :: rest))) : W p l e R s m args below meth c H locs cells slots Q (F0 m pc ls (.int (jj i) :: .ref (ad 6) :: rest)) :=
  q_iald (n := 3) (f := sg σ) C hP 7 0 rfl rfl ⟨hi.1, hi.2, by omega⟩ hdg (by rw [show sg σ i = v by rw [← hv]; exact if_pos hi]; exact kk)
theorem q_Stst {i x : Int} (C : Cx p s m args meth c cc nL own Ts D (tz cI cC cS) A ret) (w : Wd D A s (cSt cI h ad σ) H locs) (hi : 0 ≤ i ∧ i < 3) (hdg : decode cc pc = .ok (.iastore, 1))
    (kk : ∀ (H1 : Heap) (locs1 : List Loc), Wd D A s (cSt cI h ad (up σ (10 + i) x)) H1 locs1 → W p l e R s m args below meth c H1 locs1 cells slots Q (F0 m (pc + 1) ls rest)) : W p l e R s m args below meth c H locs cells slots Q (F0 m pc ls (.int (jj x) :: .int (jj i) :: .ref (ad 6) :: rest)) :=
  q_iast (n := 3) (f := sg σ) C w 7 0 rfl rfl ⟨hi.1, hi.2, by omega⟩ hdg (sR6 cI h ad σ i x hi.1 hi.2) kk
end QW
end
section
theorem fr_nil {ws : va_W} : Fr ws [] [] ws := ⟨ws, List.Perm.refl _, List.Perm.refl _⟩
section QX
variable {p : Program} {l : Launch} {e : Env} {R : Room} {s : State} {m : MethodId} {args : Array Value} {below : List Frame} {meth : Method} {c : Code} {H : Heap} {locs : List Loc} {cells slots : Nat} {Q : State → Prop}
variable {cc : ByteArray} {nL : Nat} {own : String} {Ts : List Cond} {D : va_G} {tys : List (ClassId × FieldType)} {A : Nat → Prop} {ret : Option FieldType} {pc : Nat} {ls : Array Slot} {rest : List Value} {ws ws' : va_W}
theorem q_tabIn {dflt lo hi : Int} {offs : Array Int} {len : Nat} {x v : Int} {off : Int} {tgt : Nat} (C : Cx p s m args meth c cc nL own Ts D tys A ret) (hdg : decode cc pc = .ok (.tableswitch dflt lo hi offs, len)) (hx : x = v) (hb : -2147483648 ≤ x ∧ x ≤ 2147483647) (h1 : ¬ v < lo) (h2 : ¬ hi < v) (ho : offs[(v - lo).toNat]? = some off) (ht : (pc : Int) + off = (tgt : Int))
    (kk : W p l e R s m args below meth c H locs cells slots Q (F0 m tgt ls rest)) : W p l e R s m args below meth c H locs cells slots Q (F0 m pc ls (.int (jj x) :: rest)) :=
  lv_tableIn C.1 C.2.1 hdg (by rw [jj_toInt hb.1 hb.2, hx]; exact h1) (by rw [jj_toInt hb.1 hb.2, hx]; exact h2) (by rw [jj_toInt hb.1 hb.2, hx]; exact ho) ht kk
theorem q_tabOut {dflt lo hi : Int} {offs : Array Int} {len : Nat} {x : Int} {tgt : Nat} (C : Cx p s m args meth c cc nL own Ts D tys A ret) (hdg : decode cc pc = .ok (.tableswitch dflt lo hi offs, len)) (hb : -2147483648 ≤ x ∧ x ≤ 2147483647) (h : x < lo ∨ hi < x) (ht : (pc : Int) + dflt = (tgt : Int))
    (kk : W p l e R s m args below meth c H locs cells slots Q (F0 m tgt ls rest)) : W p l e R s m args below meth c H locs cells slots Q (F0 m pc ls (.int (jj x) :: rest)) :=
  lv_tableOut C.1 C.2.1 hdg (by rw [jj_toInt hb.1 hb.2]; exact h) ht kk
theorem q_lookIn {dflt : Int} {ps : Array (Int × Int)} {len : Nat} {x v : Int} {off : Int} {tgt : Nat} (C : Cx p s m args meth c cc nL own Ts D tys A ret) (hdg : decode cc pc = .ok (.lookupswitch dflt ps, len)) (hx : x = v) (hb : -2147483648 ≤ x ∧ x ≤ 2147483647) (hp : (ps.toList.zip (ps.toList.drop 1)).all (fun (a, next) => a.1 < next.1) = true) (ho : Op.lookupswitch.offset ps.toList dflt v = off) (ht : (pc : Int) + off = (tgt : Int))
    (kk : W p l e R s m args below meth c H locs cells slots Q (F0 m tgt ls rest)) : W p l e R s m args below meth c H locs cells slots Q (F0 m pc ls (.int (jj x) :: rest)) :=
  lv_lookup C.1 C.2.1 hdg hp (by rw [jj_toInt hb.1 hb.2, hx]; exact ho) ht kk
theorem jj_char (x : Int) : ((jj x).toUInt32 % 65536).toInt32 = jj (x % 65536) := by
  have e1 : (jj x).toBitVec = BitVec.ofInt 32 x := by unfold jj; rfl
  rw [pk_char, e1]
  show Int32.ofNat _ = Int32.ofInt _
  rw [← Int32.ofInt_eq_ofNat]
  have h1 : (BitVec.ofInt 32 x).toNat = (x % 4294967296).toNat := by simp [BitVec.toNat_ofInt]
  rw [h1]
  congr 1
  have h2 : 0 ≤ x % 4294967296 := Int.emod_nonneg _ (by decide)
  have h3 : (((x % 4294967296).toNat % 65536 : Nat) : Int) = (x % 4294967296) % 65536 := by omega
  rw [h3]; omega
theorem q_i2c {x : Int} (C : Cx p s m args meth c cc nL own Ts D tys A ret) (hdg : decode cc pc = .ok (.i2c, 1)) (kk : W p l e R s m args below meth c H locs cells slots Q (F0 m (pc + 1) ls (.int (jj (x % 65536)) :: rest))) : W p l e R s m args below meth c H locs cells slots Q (F0 m pc ls (.int (jj x) :: rest)) :=
  lv_i2c C.1 C.2.1 hdg (jj_char x) kk
end QX
end
section
/-! What the document's words are, over the numbers of a state: 0 to 9 the counts, 10 to 12 the settings, 13 + 6 p + k the person at the place p. -/
def lst (σ : Int → Int) (p : Int) : Int := max 0 (p - σ (13 + 6 * p + 4) / 2)
def grt (σ : Int → Int) (p : Int) : Int := min (σ 0 - 1) (p + (σ (13 + 6 * p + 4) - 1) / 2)
/-- the umbrella at q reaches p -/
abbrev hit (σ : Int → Int) (q p : Int) : Prop := 0 < σ (13 + 6 * q + 4) ∧ lst σ q ≤ p ∧ p ≤ grt σ q
def rch (σ : Int → Int) (p i : Int) : Int := it (fun q a => a + bI (hit σ q p)) 0 i
theorem rch_0 (σ : Int → Int) (p : Int) : rch σ p 0 = 0 := rfl
theorem rch_s (σ : Int → Int) (p : Int) {i : Int} (h : 0 ≤ i) : rch σ p (i + 1) = rch σ p i + bI (hit σ i p) := it_s _ _ h
theorem sum_b (P : Int → Prop) [DecidablePred P] (n : Int) (hn : 0 ≤ n) : 0 ≤ it (fun q a => a + bI (P q)) 0 n ∧ it (fun q a => a + bI (P q)) 0 n ≤ n :=
  it_ind (fun q a => a + bI (P q)) 0 (fun i a => 0 ≤ a ∧ a ≤ i) n (by omega) (fun i x h0 h1 hx => by
    have h2 := bI_lo (P i)
    have h3 := bI_hi (P i)
    show 0 ≤ x + bI (P i) ∧ x + bI (P i) ≤ i + 1
    omega) n hn (Int.le_refl n)
theorem rch_b (σ : Int → Int) (p : Int) {n : Int} (hn : 0 ≤ n) : 0 ≤ rch σ p n ∧ rch σ p n ≤ n := sum_b (fun q => hit σ q p) n hn
/-- water of the umbrella at q runs onto p -/
abbrev rno (σ : Int → Int) (q p : Int) : Prop := 0 < σ (13 + 6 * q + 4) ∧ (p = lst σ q - 1 ∨ p = grt σ q + 1)
def rnf (σ : Int → Int) (p i : Int) : Int := it (fun q a => a + bI (rno σ q p)) 0 i
theorem rnf_0 (σ : Int → Int) (p : Int) : rnf σ p 0 = 0 := rfl
theorem rnf_s (σ : Int → Int) (p : Int) {i : Int} (h : 0 ≤ i) : rnf σ p (i + 1) = rnf σ p i + bI (rno σ i p) := it_s _ _ h
theorem rnf_b (σ : Int → Int) (p : Int) {n : Int} (hn : 0 ≤ n) : 0 ≤ rnf σ p n ∧ rnf σ p n ≤ n := sum_b (fun q => rno σ q p) n hn
abbrev cov (σ : Int → Int) (p side : Int) : Prop := 0 < rch σ p (σ 0) ∨ (side = 1 ∧ 0 < rch σ (p - 1) (σ 0)) ∨ (side = 2 ∧ 0 < rch σ (p + 1) (σ 0))
def wtr (σ : Int → Int) (p d side : Int) : Int := (if cov σ p side then 0 else d) + rnf σ p (σ 0) * (d / 2)
def wby (σ : Int → Int) (p d side : Int) : Int := min 999 (σ (13 + 6 * p + 1) + wtr σ p d side)
/-- the widths are in their range -/
def Wi (σ : Int → Int) : Prop := 0 ≤ σ 0 ∧ σ 0 ≤ 16 ∧ ∀ q : Int, 0 ≤ q → q < σ 0 → 0 ≤ σ (13 + 6 * q + 4) ∧ σ (13 + 6 * q + 4) ≤ 5
/-- the wetness too -/
def We (σ : Int → Int) : Prop := ∀ q : Int, 0 ≤ q → q < σ 0 → 0 ≤ σ (13 + 6 * q + 1) ∧ σ (13 + 6 * q + 1) ≤ 999
theorem run_b {x d : Int} (h0 : 0 ≤ x) (h1 : x ≤ 16) (hd : 1 ≤ d) (hd2 : d ≤ 99) : 0 ≤ x * (d / 2) ∧ x * (d / 2) ≤ 784 := by
  have h2 : 0 ≤ d / 2 := by omega
  have h3 : d / 2 ≤ 49 := by omega
  refine ⟨Int.mul_nonneg h0 h2, ?_⟩
  have h4 : x * (d / 2) ≤ 16 * (d / 2) := Int.mul_le_mul_of_nonneg_right h1 h2
  omega
theorem wtr_b {σ : Int → Int} (h : Wi σ) (p side : Int) {d : Int} (hd : 1 ≤ d) (hd2 : d ≤ 99) : 0 ≤ wtr σ p d side ∧ wtr σ p d side ≤ 883 := by
  have h1 := rnf_b σ p h.1
  have h2 := run_b h1.1 (Int.le_trans h1.2 h.2.1) hd hd2
  unfold wtr
  split <;> omega
/-! somebody goes -/
def gs1 (σ : Int → Int) (p i : Int) : Int → Int := fun j => if j = 0 then σ 0 - 1 else if 13 + 6 * p ≤ j ∧ j < i then σ (j + 6) else σ j
def gs2 (σ : Int → Int) (p i : Int) : Int → Int := fun j => if 13 + 6 * (σ 0 - 1) ≤ j ∧ j < 13 + 6 * (σ 0 - 1) + i then 0 else gs1 σ p (13 + 6 * (σ 0 - 1)) j
def goes (σ : Int → Int) (p : Int) : Int → Int := gs2 σ p 6
theorem gs1_0 (σ : Int → Int) {p : Int} (hp : 0 ≤ p) : up σ 0 (σ 0 - 1) = gs1 σ p (13 + 6 * p + 0) := by
  funext j; unfold up gs1
  split
  · rfl
  · rw [if_neg (by omega)]
theorem gs1_z (σ : Int → Int) (p i : Int) : gs1 σ p i 0 = σ 0 - 1 := if_pos rfl
theorem gs1_s (σ : Int → Int) {p i : Int} (hp : 0 ≤ p) (hi : 13 + 6 * p ≤ i) : up (gs1 σ p i) i (gs1 σ p i (i + 6)) = gs1 σ p (i + 1) := by
  funext j; unfold up gs1
  by_cases e : j = i
  · rw [if_pos e, if_neg (by omega), if_neg (by omega), if_neg (by omega), if_pos (by omega), e]
  · rw [if_neg e]
    by_cases e0 : j = 0
    · rw [if_pos e0, if_pos e0]
    · rw [if_neg e0, if_neg e0]
      by_cases e1 : 13 + 6 * p ≤ j ∧ j < i
      · rw [if_pos e1, if_pos (by omega)]
      · rw [if_neg e1, if_neg (by omega)]
theorem gs2_0 (σ : Int → Int) (p : Int) : gs1 σ p (13 + 6 * (σ 0 - 1)) = gs2 σ p 0 := by
  funext j; unfold gs2; rw [if_neg (by omega)]
theorem gs2_z (σ : Int → Int) (p i : Int) (h : 1 ≤ σ 0) : gs2 σ p i 0 = σ 0 - 1 := by
  unfold gs2; rw [if_neg (by omega), gs1_z]
theorem gs2_s (σ : Int → Int) (p : Int) {i : Int} (h : 1 ≤ σ 0) (hi : 0 ≤ i) : up (gs2 σ p i) (13 + 6 * gs2 σ p i 0 + i) 0 = gs2 σ p (i + 1) := by
  rw [gs2_z σ p i h]
  funext j; unfold up gs2
  by_cases e : j = 13 + 6 * (σ 0 - 1) + i
  · rw [if_pos e, if_pos (by omega)]
  · rw [if_neg e]
    by_cases e1 : 13 + 6 * (σ 0 - 1) ≤ j ∧ j < 13 + 6 * (σ 0 - 1) + i
    · rw [if_pos e1, if_pos (by omega)]
    · rw [if_neg e1, if_neg (by omega)]
/-! the counter -/
def srv (σ : Int → Int) : Int := min (σ 0) (σ 11)
def drf (σ : Int → Int) (p f : Int) : Int := if σ (13 + 6 * p + 1) < σ (13 + 6 * f + 1) then p else f
def dri (σ : Int → Int) (i : Int) : Int := it (drf σ) 0 i
theorem dri_1 (σ : Int → Int) : dri σ 1 = 0 := by
  show drf σ 0 0 = 0
  unfold drf; rw [if_neg (by omega)]
theorem dri_s (σ : Int → Int) {i : Int} (h : 0 ≤ i) : dri σ (i + 1) = drf σ i (dri σ i) := it_s _ _ h
theorem dri_b (σ : Int → Int) {n : Int} (hn : 1 ≤ n) : 0 ≤ dri σ n ∧ dri σ n < n := by
  have := it_ind (drf σ) 0 (fun i a => 0 ≤ a ∧ (a < i ∨ i = 0 ∧ a = 0)) n ⟨by omega, Or.inr ⟨rfl, rfl⟩⟩ (fun i x h0 h1 hx => by
    show 0 ≤ drf σ i x ∧ (drf σ i x < i + 1 ∨ i + 1 = 0 ∧ drf σ i x = 0)
    unfold drf
    split <;> omega) n (by omega) (Int.le_refl n)
  have h2 : 0 ≤ dri σ n ∧ (dri σ n < n ∨ n = 0 ∧ dri σ n = 0) := this
  omega
def cpd (σ : Int → Int) : Int := min (σ (13 + 6 * dri σ (srv σ) + 3)) (srv σ * σ 12)
theorem far_b {x d : Int} (h0 : 0 ≤ x) (h1 : x ≤ 16) (hd : 0 ≤ d) (hd2 : d ≤ 99) : 0 ≤ x * d ∧ x * d ≤ 1584 := by
  refine ⟨Int.mul_nonneg h0 hd, ?_⟩
  have h4 : x * d ≤ 16 * d := Int.mul_le_mul_of_nonneg_right h1 hd
  omega
theorem srv_b {σ : Int → Int} (h : 1 ≤ σ 0 ∧ σ 0 ≤ 16) (h2 : 1 ≤ σ 11 ∧ σ 11 ≤ 4) : 1 ≤ srv σ ∧ srv σ ≤ 4 ∧ srv σ ≤ σ 0 := by unfold srv; omega
end
section
/-! What acts do to the numbers of a state. -/
theorem rch_cong {σ σ' : Int → Int} (h0 : σ 0 = σ' 0) (hw : ∀ q : Int, 0 ≤ q → q < σ 0 → σ (13 + 6 * q + 4) = σ' (13 + 6 * q + 4)) (p : Int) : rch σ p (σ 0) = rch σ' p (σ' 0) := by
  rw [← h0]
  refine it_cong _ _ _ _ (fun i x h1 h2 => ?_)
  have e : bI (hit σ i p) = bI (hit σ' i p) := by
    unfold bI
    simp only [hit, lst, grt, ← hw i h1 h2, h0]
  show x + bI (hit σ i p) = x + bI (hit σ' i p)
  rw [e]
theorem rnf_cong {σ σ' : Int → Int} (h0 : σ 0 = σ' 0) (hw : ∀ q : Int, 0 ≤ q → q < σ 0 → σ (13 + 6 * q + 4) = σ' (13 + 6 * q + 4)) (p : Int) : rnf σ p (σ 0) = rnf σ' p (σ' 0) := by
  rw [← h0]
  refine it_cong _ _ _ _ (fun i x h1 h2 => ?_)
  have e : bI (rno σ i p) = bI (rno σ' i p) := by
    unfold bI
    simp only [rno, lst, grt, ← hw i h1 h2, h0]
  show x + bI (rno σ i p) = x + bI (rno σ' i p)
  rw [e]
theorem wtr_cong {σ σ' : Int → Int} (h0 : σ 0 = σ' 0) (hw : ∀ q : Int, 0 ≤ q → q < σ 0 → σ (13 + 6 * q + 4) = σ' (13 + 6 * q + 4)) (p d side : Int) : wtr σ p d side = wtr σ' p d side := by
  unfold wtr
  simp only [cov, rch_cong h0 hw, rnf_cong h0 hw]
theorem wby_cong {σ σ' : Int → Int} (h0 : σ 0 = σ' 0) (hw : ∀ q : Int, 0 ≤ q → q < σ 0 → σ (13 + 6 * q + 4) = σ' (13 + 6 * q + 4)) {p : Int} (hp : σ (13 + 6 * p + 1) = σ' (13 + 6 * p + 1)) (d side : Int) : wby σ p d side = wby σ' p d side := by
  unfold wby
  rw [wtr_cong h0 hw, hp]
/-- the wetness of the first i -/
def gw (σ : Int → Int) (d side i : Int) : Int → Int := fun k => if 14 ≤ k ∧ k < 13 + 6 * i ∧ (k - 14) % 6 = 0 then wby σ ((k - 14) / 6) d side else σ k
theorem gw_0 (σ : Int → Int) (d side : Int) : gw σ d side 0 = σ := by
  funext k; unfold gw; rw [if_neg (by omega)]
theorem gw_n (σ : Int → Int) (d side i : Int) {k : Int} (h : k < 14 ∨ 13 + 6 * i ≤ k ∨ (k - 14) % 6 ≠ 0) : gw σ d side i k = σ k := by
  unfold gw; rw [if_neg (by omega)]
theorem gw_y (σ : Int → Int) (d side i : Int) {q : Int} (h0 : 0 ≤ q) (h1 : q < i) : gw σ d side i (13 + 6 * q + 1) = wby σ q d side := by
  unfold gw; rw [if_pos (by omega), show (13 + 6 * q + 1 - 14) / 6 = q by omega]
theorem gw_w (σ : Int → Int) (d side i p : Int) (hp : i ≤ p) : wby (gw σ d side i) p d side = wby σ p d side :=
  wby_cong (gw_n σ d side i (by omega)) (fun q h0 h1 => gw_n σ d side i (by omega)) (gw_n σ d side i (by omega)) d side
theorem gw_s (σ : Int → Int) (d side : Int) {i : Int} (h : 0 ≤ i) : up (gw σ d side i) (13 + 6 * i + 1) (wby (gw σ d side i) i d side) = gw σ d side (i + 1) := by
  rw [gw_w σ d side i i (Int.le_refl i)]
  funext k; unfold up gw
  by_cases e : k = 13 + 6 * i + 1
  · rw [if_pos e, if_pos (by omega), show (k - 14) / 6 = i by omega]
  · rw [if_neg e]
    by_cases e1 : 14 ≤ k ∧ k < 13 + 6 * i ∧ (k - 14) % 6 = 0
    · rw [if_pos e1, if_pos (by omega)]
    · rw [if_neg e1, if_neg (by omega)]
theorem wby_b {σ : Int → Int} (h : Wi σ) {p side d : Int} (hd : 1 ≤ d) (hd2 : d ≤ 99) (hp : 0 ≤ σ (13 + 6 * p + 1)) : 0 ≤ wby σ p d side ∧ wby σ p d side ≤ 999 := by
  have := wtr_b h p side hd hd2
  unfold wby; omega
theorem gw_W {σ : Int → Int} (h : Wi σ) (d side i : Int) : Wi (gw σ d side i) := by
  refine ⟨?_, ?_, fun q h0 h1 => ?_⟩
  · rw [gw_n σ d side i (by omega)]; exact h.1
  · rw [gw_n σ d side i (by omega)]; exact h.2.1
  · rw [gw_n σ d side i (show 0 < 14 ∨ _ by omega)] at h1
    rw [gw_n σ d side i (by omega)]; exact h.2.2 q h0 h1
/-- all that are too wet leave, from the last one: j places are done; rm: how one goes -/
def rmf (rm : (Int → Int) → Int → Int → Int) (n j : Int) (st : Int → Int) : Int → Int := if st (13 + 6 * (n - 1 - j) + 2) < st (13 + 6 * (n - 1 - j) + 1) then rm st (n - 1 - j) else st
def rms (rm : (Int → Int) → Int → Int → Int) (n : Int) (σ : Int → Int) (j : Int) : Int → Int := it (rmf rm n) σ j
theorem rms_0 (rm : (Int → Int) → Int → Int → Int) (n : Int) (σ : Int → Int) : rms rm n σ 0 = σ := rfl
theorem rms_s (rm : (Int → Int) → Int → Int → Int) (n : Int) (σ : Int → Int) {j : Int} (h : 0 ≤ j) : rms rm n σ (j + 1) = rmf rm n j (rms rm n σ j) := it_s _ _ h
def rmok (rm : (Int → Int) → Int → Int → Int) : Prop := ∀ (st : Int → Int) (p : Int), 0 ≤ p → p < st 0 → st 0 ≤ 16 → rm st p 0 = st 0 - 1 ∧ ∀ k : Int, 1 ≤ k → k < 13 + 6 * p → rm st p k = st k
theorem rms_i {rm : (Int → Int) → Int → Int → Int} (hr : rmok rm) {n : Int} {σ : Int → Int} (hn : σ 0 = n) (hn2 : n ≤ 16) : ∀ j : Int, 0 ≤ j → j ≤ n → rms rm n σ j 0 ≤ n ∧ n - j ≤ rms rm n σ j 0 ∧ ∀ k : Int, 1 ≤ k → k < 13 + 6 * (n - j) → rms rm n σ j k = σ k :=
  it_ind (rmf rm n) σ (fun j st => st 0 ≤ n ∧ n - j ≤ st 0 ∧ ∀ k : Int, 1 ≤ k → k < 13 + 6 * (n - j) → st k = σ k) n ⟨by omega, by omega, fun k _ _ => rfl⟩ (fun j st h0 h1 hx => by
    show rmf rm n j st 0 ≤ n ∧ n - (j + 1) ≤ rmf rm n j st 0 ∧ ∀ k : Int, 1 ≤ k → k < 13 + 6 * (n - (j + 1)) → rmf rm n j st k = σ k
    obtain ⟨x1, x2, x3⟩ := hx
    unfold rmf
    split
    · obtain ⟨y1, y2⟩ := hr st (n - 1 - j) (by omega) (by omega) (by omega)
      refine ⟨by omega, by omega, fun k k0 k1 => ?_⟩
      rw [y2 k k0 (by omega)]; exact x3 k k0 (by omega)
    · exact ⟨by omega, by omega, fun k k0 k1 => x3 k k0 (by omega)⟩)
theorem goes_0 (σ : Int → Int) (p : Int) (h : 1 ≤ σ 0) : goes σ p 0 = σ 0 - 1 := gs2_z σ p 6 h
theorem goes_lo (σ : Int → Int) {p k : Int} (h : p < σ 0) (h1 : 1 ≤ k) (h2 : k < 13 + 6 * p) : goes σ p k = σ k := by
  unfold goes gs2 gs1
  rw [if_neg (by omega), if_neg (by omega), if_neg (by omega)]
theorem goes_ok : rmok goes := fun st p h0 h1 h2 => ⟨goes_0 st p (by omega), fun k k0 k1 => goes_lo st h1 k0 k1⟩
def gR (σ : Int → Int) (d side : Int) : Int → Int := rms goes (σ 0) (gw σ d side (σ 0)) (σ 0)
def gur (σ : Int → Int) (d side : Int) : Int := if σ 0 = 0 then -5 else σ 0 - gR σ d side 0
def gus (σ : Int → Int) (d side : Int) : Int → Int := if σ 0 = 0 then σ else up (up (gR σ d side) 3 (gR σ d side 3 + (σ 0 - gR σ d side 0))) 8 (up (gR σ d side) 3 (gR σ d side 3 + (σ 0 - gR σ d side 0)) 8 + 1)
/-- dry: the first i are mi minutes drier -/
def dr (σ : Int → Int) (mi i : Int) : Int → Int := fun k => if 14 ≤ k ∧ k < 13 + 6 * i ∧ (k - 14) % 6 = 0 then max 0 (σ k - mi * σ 10) else σ k
theorem dr_0 (σ : Int → Int) (mi : Int) : dr σ mi 0 = σ := by
  funext k; unfold dr; rw [if_neg (by omega)]
theorem dr_n (σ : Int → Int) (mi i : Int) {k : Int} (h : k < 14 ∨ 13 + 6 * i ≤ k ∨ (k - 14) % 6 ≠ 0) : dr σ mi i k = σ k := by
  unfold dr; rw [if_neg (by omega)]
theorem dr_s (σ : Int → Int) (mi : Int) {i x : Int} (h : 0 ≤ i) (hx : x = max 0 (σ (13 + 6 * i + 1) - mi * σ 10)) : up (dr σ mi i) (13 + 6 * i + 1) x = dr σ mi (i + 1) := by
  funext k; unfold up dr
  by_cases e : k = 13 + 6 * i + 1
  · rw [if_pos e, if_pos (by omega), hx, e]
  · rw [if_neg e]
    by_cases e1 : 14 ≤ k ∧ k < 13 + 6 * i ∧ (k - 14) % 6 = 0
    · rw [if_pos e1, if_pos (by omega)]
    · rw [if_neg e1, if_neg (by omega)]
abbrev isdry (σ : Int → Int) (mi p : Int) : Prop := σ (13 + 6 * p + 1) - mi * σ 10 ≤ 0
def drn (σ : Int → Int) (mi i : Int) : Int := it (fun p a => a + bI (isdry σ mi p)) 0 i
theorem drn_s (σ : Int → Int) (mi : Int) {i : Int} (h : 0 ≤ i) : drn σ mi (i + 1) = drn σ mi i + bI (isdry σ mi i) := it_s _ _ h
theorem drn_b (σ : Int → Int) (mi : Int) {n : Int} (hn : 0 ≤ n) : 0 ≤ drn σ mi n ∧ drn σ mi n ≤ n := sum_b (fun q => isdry σ mi q) n hn
def pau (σ : Int → Int) (mi : Int) : Int := if 99999 < σ 9 + mi then -3 else drn σ mi (σ 0)
def pas (σ : Int → Int) (mi : Int) : Int → Int := if 99999 < σ 9 + mi then σ else up (dr σ mi (σ 0)) 9 (σ 9 + mi)
theorem mul_b {a b A B : Int} (h0 : 0 ≤ a) (h1 : a ≤ A) (h2 : 0 ≤ b) (h3 : b ≤ B) : 0 ≤ a * b ∧ a * b ≤ A * B :=
  ⟨Int.mul_nonneg h0 h2, Int.mul_le_mul h1 h3 h2 (Int.le_trans h0 h1)⟩
/-- the first k go -/
def srs (σ : Int → Int) (k : Int) : Int → Int := fun j => if j = 0 then σ 0 - k else if 13 ≤ j ∧ j < 13 + 6 * (σ 0 - k) then σ (j + 6 * k) else if 13 + 6 * (σ 0 - k) ≤ j ∧ j < 13 + 6 * σ 0 then 0 else σ j
theorem srs_0 (σ : Int → Int) : srs σ 0 = σ := by
  funext j; unfold srs
  by_cases e : j = 0
  · rw [if_pos e, e]; omega
  · rw [if_neg e]
    by_cases e1 : 13 ≤ j ∧ j < 13 + 6 * (σ 0 - 0)
    · rw [if_pos e1]; congr 1; omega
    · rw [if_neg e1, if_neg (by omega)]
theorem srs_z (σ : Int → Int) (k : Int) : srs σ k 0 = σ 0 - k := if_pos rfl
theorem srs_s (σ : Int → Int) {k : Int} (h0 : 0 ≤ k) (h1 : k < σ 0) : goes (srs σ k) 0 = srs σ (k + 1) := by
  funext j; unfold goes gs2 gs1
  rw [srs_z]
  by_cases e0 : j = 0
  · rw [if_neg (by omega), if_pos e0]; unfold srs; rw [if_pos e0]; omega
  · by_cases e1 : 13 ≤ j ∧ j < 13 + 6 * (σ 0 - (k + 1))
    · rw [if_neg (by omega), if_neg e0, if_pos (by omega)]
      unfold srs
      rw [if_neg (by omega), if_pos (by omega), if_neg e0, if_pos e1]
      congr 1; omega
    · by_cases e2 : 13 + 6 * (σ 0 - (k + 1)) ≤ j ∧ j < 13 + 6 * σ 0
      · by_cases e3 : j < 13 + 6 * (σ 0 - k)
        · rw [if_pos (by omega)]; unfold srs; rw [if_neg e0, if_neg e1, if_pos e2]
        · rw [if_neg (by omega), if_neg e0, if_neg (by omega)]; unfold srs; rw [if_neg e0, if_neg (by omega), if_pos (by omega), if_neg e0, if_neg e1, if_pos e2]
      · rw [if_neg (by omega), if_neg e0, if_neg (by omega)]; unfold srs; rw [if_neg e0, if_neg (by omega), if_neg (by omega), if_neg e0, if_neg e1, if_neg e2]
def sv1 (σ : Int → Int) : Int → Int := up σ 4 (σ 4 + srv σ)
def sv2 (σ : Int → Int) : Int → Int := up (sv1 σ) 5 (sv1 σ 5 + cpd σ)
def sv3 (σ : Int → Int) : Int → Int := up (sv2 σ) 6 (sv2 σ 6 + (srv σ * sv2 σ 12 - cpd σ))
def seu (σ : Int → Int) : Int := if σ 0 = 0 then -5 else cpd σ
def sev (σ : Int → Int) : Int → Int := if σ 0 = 0 then σ else srs (sv3 σ) (srv σ)
/-! swaps -/
abbrev pair (σ : Int → Int) (p : Int) : Prop := 0 ≤ p ∧ p + 1 ≤ σ 0 - 1
def mor (σ : Int → Int) (p : Int) : Int := if σ (13 + 6 * (p + 1) + 4) < σ (13 + 6 * p + 4) then σ (13 + 6 * p + 1) - σ (13 + 6 * (p + 1) + 1) else σ (13 + 6 * (p + 1) + 1) - σ (13 + 6 * p + 1)
def why (σ : Int → Int) (p : Int) : Int := if σ (13 + 6 * p + 4) = σ (13 + 6 * (p + 1) + 4) then 1 else if (σ (13 + 6 * p + 4) = 0 ∨ σ (13 + 6 * (p + 1) + 4) = 0) ∧ -50 < mor σ p then 2 else if 0 < mor σ p then 3 else 0
theorem why_b (σ : Int → Int) (p : Int) : 0 ≤ why σ p ∧ why σ p ≤ 3 := by
  unfold why; split
  · omega
  · split
    · omega
    · split <;> omega
def xch (σ : Int → Int) (p k : Int) : Int → Int := up (up σ (13 + 6 * p + k) (σ (13 + 6 * (p + 1) + k))) (13 + 6 * (p + 1) + k) (σ (13 + 6 * p + k))
def sw1 (σ : Int → Int) (p : Int) : Int → Int := up (xch σ p 4) (13 + 6 * p + 5) (xch σ p 4 (13 + 6 * p + 5) + 1)
def sw2 (σ : Int → Int) (p : Int) : Int → Int := up (sw1 σ p) (13 + 6 * (p + 1) + 5) (sw1 σ p (13 + 6 * (p + 1) + 5) + 1)
def sw3 (σ : Int → Int) (p : Int) : Int → Int := up (sw2 σ p) 7 (sw2 σ p 7 + 1)
def swu (σ : Int → Int) (p : Int) : Int := if pair σ p then (if 0 < why σ p then -10 - why σ p else sw3 σ p (13 + 6 * p + 4)) else -1
def swv (σ : Int → Int) (p : Int) : Int → Int := if pair σ p ∧ ¬ 0 < why σ p then sw3 σ p else σ
/-! the history -/
def lk (σ α : Int → Int) (i : Int) : Int → Int := fun j => if 0 ≤ j ∧ j < i then σ j else α j
theorem lk_0 (σ α : Int → Int) : lk σ α 0 = α := by funext j; unfold lk; rw [if_neg (by omega)]
theorem lk_s (σ α : Int → Int) {i : Int} (h : 0 ≤ i) : up (lk σ α i) i (σ i) = lk σ α (i + 1) := by
  funext j; unfold up lk
  by_cases e : j = i
  · rw [if_pos e, if_pos (by omega), e]
  · rw [if_neg e]
    by_cases e1 : 0 ≤ j ∧ j < i
    · rw [if_pos e1, if_pos (by omega)]
    · rw [if_neg e1, if_neg (by omega)]
def sh (β : Int → Int) (i : Int) : Int → Int := fun j => if 0 ≤ j ∧ j < i then β (109 + j) else β j
theorem sh_0 (β : Int → Int) : sh β 0 = β := by funext j; unfold sh; rw [if_neg (by omega)]
theorem sh_s (β : Int → Int) {i : Int} (h : 0 ≤ i) : up (sh β i) i (sh β i (109 + i)) = sh β (i + 1) := by
  funext j; unfold up sh
  by_cases e : j = i
  · rw [if_pos e, if_neg (by omega), if_pos (by omega), e]
  · rw [if_neg e]
    by_cases e1 : 0 ≤ j ∧ j < i
    · rw [if_pos e1, if_pos (by omega)]
    · rw [if_neg e1, if_neg (by omega)]
def ldd (β α : Int → Int) (b i : Int) : Int → Int := fun j => if 109 * b ≤ j ∧ j < 109 * b + i then α (j - 109 * b) else β j
theorem ldd_0 (β α : Int → Int) (b : Int) : ldd β α b 0 = β := by funext j; unfold ldd; rw [if_neg (by omega)]
theorem ldd_s (β α : Int → Int) (b : Int) {i : Int} (h : 0 ≤ i) : up (ldd β α b i) (109 * b + i) (α i) = ldd β α b (i + 1) := by
  funext j; unfold up ldd
  by_cases e : j = 109 * b + i
  · rw [if_pos e, if_pos (by omega), show j - 109 * b = i by omega]
  · rw [if_neg e]
    by_cases e1 : 109 * b ≤ j ∧ j < 109 * b + i
    · rw [if_pos e1, if_pos (by omega)]
    · rw [if_neg e1, if_neg (by omega)]
def rcB (β α : Int → Int) (kn : Int) : Int → Int := if kn = 4 then ldd (sh β 327) α 3 109 else ldd β α kn 109
def rcQ (q : Int → Int) : Int → Int := up q 5 (if q 5 = 4 then 4 else q 5 + 1)
theorem up_up (f : Int → Int) (i a b : Int) : up (up f i a) i b = up f i b := by
  funext j; unfold up; split <;> rfl
end
section
/-! The calls, over the numbers of a state. -/
def Iv (σ : Int → Int) : Prop := Wi σ ∧ We σ ∧ (∀ x : Int, 0 ≤ x → x < σ 0 → 10 ≤ σ (13 + 6 * x + 2) ∧ σ (13 + 6 * x + 2) ≤ 999) ∧ (∀ x : Int, 0 ≤ x → x < σ 0 → 0 ≤ σ (13 + 6 * x + 3) ∧ σ (13 + 6 * x + 3) ≤ 9999) ∧ (∀ x : Int, 0 ≤ x → x < σ 0 → 0 ≤ σ (13 + 6 * x + 0) ∧ σ (13 + 6 * x + 0) < 200) ∧ (∀ x : Int, 0 ≤ x → x < σ 0 → σ (13 + 6 * x + 1) ≤ σ (13 + 6 * x + 2)) ∧ (0 ≤ σ 1 ∧ σ 1 ≤ 200) ∧ (0 ≤ σ 9 ∧ σ 9 ≤ 99999) ∧ (0 ≤ σ 10 ∧ σ 10 ≤ 50) ∧ (1 ≤ σ 11 ∧ σ 11 ≤ 4) ∧ (0 ≤ σ 12 ∧ σ 12 ≤ 99)
def com (σ : Int → Int) (pa co wi : Int) : Int → Int :=
  let a1 := up σ 0 (σ 0 + 1)
  let a2 := up a1 (13 + 6 * σ 0 + 0) (a1 1)
  let a3 := up a2 (13 + 6 * σ 0 + 1) 0
  let a4 := up a3 (13 + 6 * σ 0 + 2) pa
  let a5 := up a4 (13 + 6 * σ 0 + 3) co
  let a6 := up a5 (13 + 6 * σ 0 + 4) wi
  let a7 := up a6 (13 + 6 * σ 0 + 5) 0
  up a7 1 (a7 1 + 1)
abbrev comok (pa co wi : Int) : Prop := (10 ≤ pa ∧ pa ≤ 999) ∧ (0 ≤ co ∧ co ≤ 9999) ∧ (0 ≤ wi ∧ wi ≤ 5)
def comu (σ : Int → Int) (pa co wi : Int) : Int := if comok pa co wi then (if σ 0 = 16 ∨ σ 1 = 200 then -3 else σ 0) else -2
def comv (σ : Int → Int) (pa co wi : Int) : Int → Int := if 0 ≤ comu σ pa co wi then com σ pa co wi else σ
abbrev isp (σ : Int → Int) (p : Int) : Prop := 0 ≤ p ∧ p ≤ σ 0 - 1
def levu (σ : Int → Int) (p : Int) : Int := if isp σ p then σ (13 + 6 * p + 1) else -1
def levv (σ : Int → Int) (p : Int) : Int → Int := if isp σ p then up (goes σ p) 2 (goes σ p 2 + 1) else σ
def xls (σ : Int → Int) (p i : Int) : Int → Int := it (fun k st => xch st p k) σ i
theorem xls_0 (σ : Int → Int) (p : Int) : xls σ p 0 = σ := rfl
theorem xls_s (σ : Int → Int) (p : Int) {i : Int} (h : 0 ≤ i) : xls σ p (i + 1) = xch (xls σ p i) p i := it_s _ _ h
theorem xch_lo (σ : Int → Int) {p k j : Int} (hp : 0 ≤ p) (hk : 0 ≤ k) (hj : j < 13) : xch σ p k j = σ j := by
  unfold xch; rw [up_n _ _ (by omega), up_n _ _ (by omega)]
def ltu (σ : Int → Int) (p : Int) : Int := if pair σ p then σ (13 + 6 * (p + 1) + 0) else -1
def ltv (σ : Int → Int) (p : Int) : Int → Int := if pair σ p then xls σ p 6 else σ
theorem xls_i (σ : Int → Int) {p : Int} (hp : 0 ≤ p) : ∀ i : Int, 0 ≤ i → i ≤ 6 → (∀ j : Int, j < 13 → xls σ p i j = σ j) ∧ (∀ k : Int, 0 ≤ k → k < i → xls σ p i (13 + 6 * p + k) = σ (13 + 6 * (p + 1) + k) ∧ xls σ p i (13 + 6 * (p + 1) + k) = σ (13 + 6 * p + k)) ∧ (∀ k : Int, i ≤ k → k < 6 → xls σ p i (13 + 6 * p + k) = σ (13 + 6 * p + k) ∧ xls σ p i (13 + 6 * (p + 1) + k) = σ (13 + 6 * (p + 1) + k)) ∧ (∀ j : Int, 13 ≤ j → (j < 13 + 6 * p ∨ 13 + 6 * (p + 2) ≤ j) → xls σ p i j = σ j) :=
  it_ind (fun k st => xch st p k) σ (fun i st => (∀ j : Int, j < 13 → st j = σ j) ∧ (∀ k : Int, 0 ≤ k → k < i → st (13 + 6 * p + k) = σ (13 + 6 * (p + 1) + k) ∧ st (13 + 6 * (p + 1) + k) = σ (13 + 6 * p + k)) ∧ (∀ k : Int, i ≤ k → k < 6 → st (13 + 6 * p + k) = σ (13 + 6 * p + k) ∧ st (13 + 6 * (p + 1) + k) = σ (13 + 6 * (p + 1) + k)) ∧ (∀ j : Int, 13 ≤ j → (j < 13 + 6 * p ∨ 13 + 6 * (p + 2) ≤ j) → st j = σ j)) 6 ⟨fun j _ => rfl, fun k h0 h1 => absurd h1 (by omega), fun k _ _ => ⟨rfl, rfl⟩, fun j _ _ => rfl⟩ (fun i st h0 h1 hx => by
    obtain ⟨x1, x2, x3, x4⟩ := hx
    refine ⟨fun j hj => ?_, fun k k0 k1 => ?_, fun k k0 k1 => ?_, fun j hj h2 => ?_⟩
    · show xch st p i j = σ j
      rw [xch_lo st hp h0 hj]; exact x1 j hj
    · show xch st p i _ = _ ∧ xch st p i _ = _
      obtain ⟨y1, y2⟩ := x3 i (Int.le_refl i) h1
      unfold xch
      by_cases e : k = i
      · subst e
        rw [up_n _ _ (by omega), up_s, up_s, y1, y2]
        exact ⟨rfl, rfl⟩
      · rw [up_n _ _ (by omega), up_n _ _ (by omega), up_n _ _ (by omega), up_n _ _ (by omega)]
        exact x2 k k0 (by omega)
    · show xch st p i _ = _ ∧ xch st p i _ = _
      unfold xch
      rw [up_n _ _ (by omega), up_n _ _ (by omega), up_n _ _ (by omega), up_n _ _ (by omega)]
      exact x3 k (by omega) k1
    · show xch st p i j = σ j
      unfold xch
      rw [up_n _ _ (by omega), up_n _ _ (by omega)]
      exact x4 j hj h2)
def slo (wh : Int) : Int := if wh = 1 then 1 else 0
def shi (wh : Int) : Int := if wh = 0 then 50 else if wh = 1 then 4 else 99
def setu (σ : Int → Int) (wh v : Int) : Int := if 0 ≤ wh ∧ wh ≤ 2 then (if slo wh ≤ v ∧ v ≤ shi wh then (if σ (10 + wh) = v then -5 else σ (10 + wh)) else -2) else -1
def setv (σ : Int → Int) (wh v : Int) : Int → Int := if 0 ≤ setu σ wh v then up σ (10 + wh) v else σ
abbrev gst (d side : Int) : Prop := (1 ≤ d ∧ d ≤ 99) ∧ (0 ≤ side ∧ side ≤ 2)
def guu (σ : Int → Int) (d side : Int) : Int := if gst d side then gur σ d side else -2
def guv (σ : Int → Int) (d side : Int) : Int → Int := if gst d side then gus σ d side else σ
def pu2 (σ : Int → Int) (mi : Int) : Int := if 1 ≤ mi ∧ mi ≤ 99 then pau σ mi else -2
def pv2 (σ : Int → Int) (mi : Int) : Int → Int := if 1 ≤ mi ∧ mi ≤ 99 then pas σ mi else σ
/-- the state that the history holds at b -/
def hst (β : Int → Int) (b : Int) : Int → Int := fun k => β (109 * b + k)
/-! what is told -/
def psu (σ : Int → Int) (p wh : Int) : Int := if isp σ p then (if wh = 5 then (if σ (13 + 6 * p + 4) = 0 then -5 else lst σ p) else if wh = 6 then (if σ (13 + 6 * p + 4) = 0 then -5 else grt σ p) else if wh = 7 then rch σ p (σ 0) else if wh = 8 then σ (13 + 6 * p + 5) else if 0 ≤ wh ∧ wh ≤ 4 then σ (13 + 6 * p + wh) else -2) else -1
/-- the first place from i on with the number x -/
def plc (σ : Int → Int) (x : Int) : Int := it (fun j r => if σ (13 + 6 * (σ 0 - 1 - j) + 0) = x then σ 0 - 1 - j else r) (-5) (σ 0)
theorem plc_at {σ : Int → Int} {x i : Int} (h0 : 0 ≤ i) (h1 : i < σ 0) (he : σ (13 + 6 * i + 0) = x) (hn : ∀ k : Int, 0 ≤ k → k < i → σ (13 + 6 * k + 0) ≠ x) : plc σ x = i := by
  have := it_ind (fun j r => if σ (13 + 6 * (σ 0 - 1 - j) + 0) = x then σ 0 - 1 - j else r) (-5) (fun j r => σ 0 - 1 - i < j → r = i) (σ 0) (fun h => absurd h (by omega)) (fun j r j0 j1 hr hj => by
    show (if σ (13 + 6 * (σ 0 - 1 - j) + 0) = x then σ 0 - 1 - j else r) = i
    by_cases e : j = σ 0 - 1 - i
    · rw [show σ 0 - 1 - j = i by omega, if_pos he]
    · rw [if_neg (hn _ (by omega) (by omega))]; exact hr (by omega)) (σ 0) (by omega) (Int.le_refl _)
  exact this (by omega)
theorem plc_no {σ : Int → Int} {x : Int} (h0 : 0 ≤ σ 0) (hn : ∀ k : Int, 0 ≤ k → k < σ 0 → σ (13 + 6 * k + 0) ≠ x) : plc σ x = -5 := by
  have := it_ind (fun j r => if σ (13 + 6 * (σ 0 - 1 - j) + 0) = x then σ 0 - 1 - j else r) (-5) (fun j r => r = -5) (σ 0) rfl (fun j r j0 j1 hr => by
    show (if σ (13 + 6 * (σ 0 - 1 - j) + 0) = x then σ 0 - 1 - j else r) = -5
    rw [if_neg (hn _ (by omega) (by omega))]; exact hr) (σ 0) h0 (Int.le_refl _)
  exact this
def plu (σ : Int → Int) (x : Int) : Int := if 0 ≤ x ∧ x ≤ 199 then plc σ x else -2
def tol (σ : Int → Int) (p d side wh : Int) : Int := if wh = 0 then bI (cov σ p side) else if wh = 1 then rnf σ p (σ 0) else if wh = 2 then wby σ p d side else bI (σ (13 + 6 * p + 2) < wby σ p d side)
def ifu (σ : Int → Int) (p d side wh : Int) : Int := if isp σ p then (if gst d side ∧ (0 ≤ wh ∧ wh ≤ 3) then tol σ p d side wh else -2) else -1
def reu (σ : Int → Int) (p : Int) : Int := if pair σ p then why σ p else -1
def awf (σ : Int → Int) (d side i : Int) : Int := it (fun p a => a + wby σ p d side) 0 i
def awb (σ : Int → Int) (d side : Int) : Int := awf σ d side (σ 0)
theorem awf_s (σ : Int → Int) (d side : Int) {i : Int} (h : 0 ≤ i) : awf σ d side (i + 1) = awf σ d side i + wby σ i d side := it_s _ _ h
theorem awf_b {σ : Int → Int} (hW : Wi σ) (hE : We σ) {d side : Int} (hd : 1 ≤ d) (hd2 : d ≤ 99) : ∀ i : Int, 0 ≤ i → i ≤ σ 0 → 0 ≤ awf σ d side i ∧ awf σ d side i ≤ 999 * i :=
  it_ind (fun p a => a + wby σ p d side) 0 (fun i a => 0 ≤ a ∧ a ≤ 999 * i) (σ 0) (by omega) (fun i a h0 h1 hx => by
    have := wby_b hW (side := side) hd hd2 (hE i h0 h1).1
    show 0 ≤ a + wby σ i d side ∧ a + wby σ i d side ≤ 999 * (i + 1)
    omega)
theorem awb_b {σ : Int → Int} (hW : Wi σ) (hE : We σ) {d side : Int} (hd : 1 ≤ d) (hd2 : d ≤ 99) : 0 ≤ awb σ d side ∧ awb σ d side ≤ 15984 := by
  have h1 := awf_b hW hE (side := side) hd hd2 (σ 0) hW.1 (Int.le_refl _)
  have h2 := hW.2.1
  unfold awb; omega
theorem xch_xch (σ : Int → Int) (p k : Int) : xch (xch σ p k) p k = σ := by
  funext j
  unfold xch up
  by_cases e1 : j = 13 + 6 * (p + 1) + k
  · rw [if_pos e1, if_neg (by omega), if_pos rfl, e1]
  · rw [if_neg e1]
    by_cases e2 : j = 13 + 6 * p + k
    · rw [if_pos e2, if_pos rfl, e2]
    · rw [if_neg e2, if_neg e1, if_neg e2]
theorem xch_W {σ : Int → Int} (h : Wi σ) {p : Int} (h0 : 0 ≤ p) (h1 : p + 1 < σ 0) : Wi (xch σ p 4) := by
  have e0 := xch_lo σ (p := p) (k := 4) (j := 0) h0 (by omega) (by omega)
  refine ⟨by rw [e0]; exact h.1, by rw [e0]; exact h.2.1, fun q q0 q1 => ?_⟩
  rw [e0] at q1
  have h5 := h.2.2 q q0 q1
  have h6 := h.2.2 p h0 (by omega)
  have h7 := h.2.2 (p + 1) (by omega) h1
  unfold xch up
  split
  · exact h6
  · split
    · exact h7
    · exact h5
theorem xch_E {σ : Int → Int} (h : We σ) {p : Int} (h0 : 0 ≤ p) : We (xch σ p 4) := by
  have e0 := xch_lo σ (p := p) (k := 4) (j := 0) h0 (by omega) (by omega)
  intro q q0 q1
  rw [e0] at q1
  have h5 := h q q0 q1
  unfold xch
  rw [up_n _ _ (by omega), up_n _ _ (by omega)]
  exact h5
def bsf (σ : Int → Int) (d side : Int) (p : Int) (x : Int × Int) : Int × Int := if why σ p = 0 then (if awb (xch σ p 4) d side < x.2 then (p, awb (xch σ p 4) d side) else x) else x
def bsl (σ : Int → Int) (d side i : Int) : Int × Int := it (bsf σ d side) (-5, awb σ d side) i
theorem bsl_s (σ : Int → Int) (d side : Int) {i : Int} (h : 0 ≤ i) : bsl σ d side (i + 1) = bsf σ d side i (bsl σ d side i) := it_s _ _ h
def bsu (σ : Int → Int) (d side : Int) : Int := if gst d side then (bsl σ d side (σ 0 - 1)).1 else -2
def pyu (σ : Int → Int) (wh : Int) : Int := if 0 ≤ wh ∧ wh ≤ 1 then (if σ 0 = 0 then -5 else if wh = 0 then dri σ (srv σ) else cpd σ) else -2
def beu (σ : Int → Int) (p d : Int) : Int := if isp σ p then (if 1 ≤ d ∧ d ≤ 99 then (if wtr σ p d 0 = 0 ∨ σ (13 + 6 * p + 2) = 999 then -5 else (σ (13 + 6 * p + 2) - σ (13 + 6 * p + 1)) / wtr σ p d 0) else -2) else -1
def swf (σ : Int → Int) (i : Int) : Int := it (fun p a => a + σ (13 + 6 * p + 1)) 0 i
theorem swf_s (σ : Int → Int) {i : Int} (h : 0 ≤ i) : swf σ (i + 1) = swf σ i + σ (13 + 6 * i + 1) := it_s _ _ h
/-- the wettest of the first i -/
def wtt (σ : Int → Int) (i : Int) : Int := it (fun p f => if σ (13 + 6 * f + 1) < σ (13 + 6 * p + 1) then p else f) 0 i
theorem wtt_1 (σ : Int → Int) : wtt σ 1 = 0 := by
  show (if σ (13 + 6 * 0 + 1) < σ (13 + 6 * ((0 : Nat) : Int) + 1) then ((0 : Nat) : Int) else 0) = 0
  split <;> rfl
theorem wtt_s (σ : Int → Int) {i : Int} (h : 0 ≤ i) : wtt σ (i + 1) = if σ (13 + 6 * wtt σ i + 1) < σ (13 + 6 * i + 1) then i else wtt σ i := it_s _ _ h
def wtu (σ : Int → Int) : Int := if σ 0 = 0 then -5 else wtt σ (σ 0)
def unf (σ : Int → Int) (i : Int) : Int := it (fun p a => a + bI (rch σ p (σ 0) = 0)) 0 i
theorem unf_s (σ : Int → Int) {i : Int} (h : 0 ≤ i) : unf σ (i + 1) = unf σ i + bI (rch σ i (σ 0) = 0) := it_s _ _ h
def cnu (σ : Int → Int) (kn le wh : Int) : Int := if 0 ≤ wh ∧ wh ≤ 9 then σ wh else if wh = 10 then swf σ (σ 0) else if wh = 11 then wtu σ else if wh = 12 then unf σ (σ 0) else if 13 ≤ wh ∧ wh ≤ 15 then σ (wh - 3) else if wh = 16 then kn else if wh = 17 then le else -2
end
section
/-! Texts: τ its characters, le its length. -/
def ltr (τ : Int → Int) (le P : Int) : Int := if P < le then τ P else 0
abbrev lok (x : Int) : Prop := x = 103 ∨ x = 46 ∨ x = 99 ∨ x = 120
abbrev nok (τ : Int → Int) (le P ls : Int) : Prop := 48 + ls ≤ ltr τ le P ∧ ltr τ le P ≤ 57
abbrev two (τ : Int → Int) (le P ms : Int) : Prop := 0 < ltr τ le P - 48 ∧ P + 1 < le ∧ (48 ≤ τ (P + 1) ∧ τ (P + 1) ≤ 57) ∧ 10 * (ltr τ le P - 48) + τ (P + 1) - 48 ≤ ms
def nva (τ : Int → Int) (le P ms : Int) : Int := if two τ le P ms then 10 * (ltr τ le P - 48) + (τ (P + 1) - 48) else ltr τ le P - 48
def nen (τ : Int → Int) (le P ms : Int) : Int := if two τ le P ms then P + 2 else P + 1
abbrev tok (τ : Int → Int) (le P : Int) : Prop := ltr τ le P = 99 ∨ (ltr τ le P = 120 ∧ nok τ le (P + 1) 0) ∨ ((ltr τ le P = 103 ∨ ltr τ le P = 46) ∧ nok τ le (P + 1) 1)
def tnu (τ : Int → Int) (le P : Int) : Int := if ltr τ le P = 99 then 0 else if ltr τ le P = 120 then nva τ le (P + 1) 15 else nva τ le (P + 1) 99
def tmi (τ : Int → Int) (le P : Int) : Int := if ltr τ le P = 99 then P + 1 else if ltr τ le P = 120 then nen τ le (P + 1) 15 else nen τ le (P + 1) 99
def tsi (τ : Int → Int) (le P : Int) : Int := if ltr τ le P = 103 ∧ tmi τ le P < le ∧ τ (tmi τ le P) = 60 then 1 else if ltr τ le P = 103 ∧ tmi τ le P < le ∧ τ (tmi τ le P) = 62 then 2 else 0
def ten (τ : Int → Int) (le P : Int) : Int := if 0 < tsi τ le P then tmi τ le P + 1 else tmi τ le P
def tfl (τ : Int → Int) (le P : Int) : Int := if lok (ltr τ le P) then P + 1 else P
theorem ltr_in {τ : Int → Int} {le P : Int} (h : P < le) : ltr τ le P = τ P := if_pos h
theorem ltr_out {τ : Int → Int} {le P : Int} (h : le ≤ P) : ltr τ le P = 0 := if_neg (by omega)
theorem nva_b {τ : Int → Int} {le P ls ms : Int} (h : nok τ le P ls) (h0 : 0 ≤ ls) (hm : 9 ≤ ms) : ls ≤ nva τ le P ms ∧ nva τ le P ms ≤ ms := by
  unfold nva; split <;> omega
theorem nen_b {τ : Int → Int} {le P ls ms : Int} (h : nok τ le P ls) (h0 : 0 ≤ ls) : P + 1 ≤ nen τ le P ms ∧ nen τ le P ms ≤ P + 2 ∧ nen τ le P ms ≤ le := by
  have h1 : P < le := by
    rcases Int.lt_or_le P le with h2 | h2
    · exact h2
    · have := ltr_out (τ := τ) h2; omega
  unfold nen; split <;> omega
theorem tok_lt {τ : Int → Int} {le P : Int} (h : tok τ le P) : P < le := by
  rcases Int.lt_or_le P le with h2 | h2
  · exact h2
  · have := ltr_out (τ := τ) h2; omega
theorem tmi_b {τ : Int → Int} {le P : Int} (h : tok τ le P) : P + 1 ≤ tmi τ le P ∧ tmi τ le P ≤ P + 3 ∧ tmi τ le P ≤ le := by
  have h1 := tok_lt h
  unfold tmi
  by_cases e1 : ltr τ le P = 99
  · rw [if_pos e1]; omega
  · rw [if_neg e1]
    by_cases e2 : ltr τ le P = 120
    · rw [if_pos e2]
      have := nen_b (τ := τ) (le := le) (P := P + 1) (ls := 0) (ms := 15) (by omega) (by omega)
      omega
    · rw [if_neg e2]
      have := nen_b (τ := τ) (le := le) (P := P + 1) (ls := 1) (ms := 99) (by omega) (by omega)
      omega
theorem tsi_b (τ : Int → Int) (le P : Int) : 0 ≤ tsi τ le P ∧ tsi τ le P ≤ 2 ∧ (0 < tsi τ le P → tmi τ le P < le) := by
  unfold tsi; (repeat' split) <;> omega
theorem ten_b {τ : Int → Int} {le P : Int} (h : tok τ le P) : P + 1 ≤ ten τ le P ∧ ten τ le P ≤ P + 4 ∧ ten τ le P ≤ le := by
  have h1 := tmi_b h
  have h2 := tsi_b τ le P
  unfold ten; split <;> omega
theorem tnu_b {τ : Int → Int} {le P : Int} (h : tok τ le P) : 0 ≤ tnu τ le P ∧ tnu τ le P ≤ 99 ∧ (ltr τ le P = 120 → tnu τ le P ≤ 15) ∧ (ltr τ le P = 103 ∨ ltr τ le P = 46 → 1 ≤ tnu τ le P) := by
  unfold tnu
  by_cases e1 : ltr τ le P = 99
  · rw [if_pos e1]; omega
  · rw [if_neg e1]
    by_cases e2 : ltr τ le P = 120
    · rw [if_pos e2]
      have := nva_b (τ := τ) (le := le) (P := P + 1) (ls := 0) (ms := 15) (by omega) (by omega) (by omega)
      omega
    · rw [if_neg e2]
      have := nva_b (τ := τ) (le := le) (P := P + 1) (ls := 1) (ms := 99) (by omega) (by omega) (by omega)
      omega
/-- the text goes on behind the thing at P -/
abbrev cont (τ : Int → Int) (le P : Int) : Prop := tok τ le P ∧ ten τ le P < le ∧ τ (ten τ le P) = 59
def nxt (τ : Int → Int) (le : Int) (x : Int × Int) : Int × Int := if cont τ le x.1 then (ten τ le x.1 + 1, x.2 + 1) else x
def itp (τ : Int → Int) (le n : Int) : Int × Int := it (fun _ x => nxt τ le x) (0, 0) n
/-- the last thing's place, and how many stand ahead of it -/
def fin (τ : Int → Int) (le : Int) : Int × Int := itp τ le 40
theorem itp_s (τ : Int → Int) (le : Int) {n : Int} (h : 0 ≤ n) : itp τ le (n + 1) = nxt τ le (itp τ le n) := it_s _ _ h
theorem itp_b (τ : Int → Int) {le : Int} (hl : 0 ≤ le) (n : Int) (hn : 0 ≤ n) : 0 ≤ (itp τ le n).2 ∧ (itp τ le n).2 ≤ n ∧ 2 * (itp τ le n).2 ≤ (itp τ le n).1 ∧ (itp τ le n).1 ≤ le :=
  it_ind (fun _ x => nxt τ le x) (0, 0) (fun n x => 0 ≤ x.2 ∧ x.2 ≤ n ∧ 2 * x.2 ≤ x.1 ∧ x.1 ≤ le) n ⟨Int.le_refl 0, Int.le_refl 0, Int.le_refl 0, hl⟩ (fun i x h0 h1 hx => by
    show 0 ≤ (nxt τ le x).2 ∧ (nxt τ le x).2 ≤ i + 1 ∧ 2 * (nxt τ le x).2 ≤ (nxt τ le x).1 ∧ (nxt τ le x).1 ≤ le
    unfold nxt
    by_cases c : cont τ le x.1
    · rw [if_pos c]
      have := ten_b c.1
      have c2 := c.2.1
      refine ⟨?_, ?_, ?_, ?_⟩
      · show 0 ≤ x.2 + 1; omega
      · show x.2 + 1 ≤ i + 1; omega
      · show 2 * (x.2 + 1) ≤ ten τ le x.1 + 1; omega
      · show ten τ le x.1 + 1 ≤ le; omega
    · rw [if_neg c]; omega) n hn (Int.le_refl n)
/-- once it stops it stays -/
theorem itp_stay {τ : Int → Int} {le : Int} {n : Int} (hn : 0 ≤ n) (hc : ¬ cont τ le (itp τ le n).1) : ∀ k : Nat, itp τ le (n + k) = itp τ le n := by
  intro k
  induction k with
  | zero => rw [show n + ((0 : Nat) : Int) = n by omega]
  | succ k ih =>
    rw [show n + ((k + 1 : Nat) : Int) = (n + k) + 1 by omega, itp_s τ le (by omega), ih]
    unfold nxt; rw [if_neg hc]
theorem fin_at {τ : Int → Int} {le n P : Int} (hn : 0 ≤ n) (hn2 : n ≤ 40) (he : (P, n) = itp τ le n) (hc : ¬ cont τ le P) : fin τ le = (P, n) := by
  have e1 : P = (itp τ le n).1 := by rw [← he]
  rw [e1] at hc
  have := itp_stay hn hc (40 - n).toNat
  rw [show n + (((40 - n).toNat : Nat) : Int) = 40 by omega] at this
  unfold fin; rw [this, he]
/-- as long as it goes on the count is the step's number -/
theorem itp_go {τ : Int → Int} {le n P : Int} (hn : 0 ≤ n) (he : (P, n) = itp τ le n) (hc : cont τ le P) : (ten τ le P + 1, n + 1) = itp τ le (n + 1) := by
  rw [itp_s τ le hn, ← he]
  unfold nxt
  rw [if_pos (show cont τ le (P, n).1 from hc)]
/-- the text is weather -/
abbrev wok (τ : Int → Int) (le : Int) : Prop := tok τ le (fin τ le).1 ∧ le ≤ ten τ le (fin τ le).1
def flt (τ : Int → Int) (le : Int) : Int := if tok τ le (fin τ le).1 then ten τ le (fin τ le).1 else tfl τ le (fin τ le).1
theorem wok_at {τ : Int → Int} {le n P : Int} (hw : wok τ le) (hn : 0 ≤ n) (hn2 : n ≤ 40) (he : (P, n) = itp τ le n) : tok τ le P ∧ (ten τ le P < le → cont τ le P) := by
  by_cases c : cont τ le P
  · exact ⟨c.1, fun _ => c⟩
  · have hf := fin_at hn hn2 he c
    unfold wok at hw
    rw [hf] at hw
    have h1 : tok τ le P := hw.1
    have h2 : le ≤ ten τ le P := hw.2
    exact ⟨h1, fun h => absurd h (by omega)⟩
/-! the model's fields behind a thing -/
def rq (τ q : Int → Int) (le P : Int) : Int → Int := up (up (up (up (up q 12 (ltr τ le P)) 13 (tnu τ le P)) 14 (tsi τ le P)) 11 0) 10 (ten τ le P)
def bq (τ q : Int → Int) (le P : Int) : Int → Int := up (up (up (up (up q 12 (ltr τ le P)) 13 (ltr τ le (tfl τ le P) - 48)) 14 0) 11 1) 10 (tfl τ le P)
theorem up4 (q : Int → Int) (a b x y : Int) : up (up (up (up q 11 a) 10 b) 11 x) 10 y = up (up q 11 x) 10 y := by
  funext k; simp only [up]; (repeat' split) <;> first | rfl | omega
theorem upr1 (q : Int → Int) (a b x f g i : Int) : up (up (up (up (up (up q 12 a) 11 b) 10 x) 13 f) 14 g) 10 i = up (up (up (up (up q 12 a) 13 f) 14 g) 11 b) 10 i := by
  funext k; simp only [up]; (repeat' split) <;> first | rfl | omega
theorem upr2 (q : Int → Int) (a b x d e f g i : Int) : up (up (up (up (up (up (up (up q 12 a) 11 b) 10 x) 11 d) 10 e) 13 f) 14 g) 10 i = up (up (up (up (up q 12 a) 13 f) 14 g) 11 d) 10 i := by
  funext k; simp only [up]; (repeat' split) <;> first | rfl | omega
/-! doing a thing -/
def exU (σ : Int → Int) (cL nu sd : Int) : Int := if cL = 103 then gur σ nu sd else if cL = 46 then pau σ nu else if cL = 99 then seu σ else swu σ nu
def exV (σ : Int → Int) (cL nu sd : Int) : Int → Int := if cL = 103 then gus σ nu sd else if cL = 46 then pas σ nu else if cL = 99 then sev σ else swv σ nu
abbrev stp (u : Int) : Prop := u < 0 ∧ u ≠ -5 ∧ -10 < u
def xU (τ σ : Int → Int) (le P : Int) : Int := exU σ (ltr τ le P) (tnu τ le P) (tsi τ le P)
def xV (τ σ : Int → Int) (le P : Int) : Int → Int := exV σ (ltr τ le P) (tnu τ le P) (tsi τ le P)
/-- a run: the state, how many things are done, why it stopped -/
def ers1 (τ : Int → Int) (le j : Int) (x : (Int → Int) × Int × Int) : (Int → Int) × Int × Int := if x.2.2 = 0 then (if stp (xU τ x.1 le (itp τ le j).1) then (xV τ x.1 le (itp τ le j).1, x.2.1, xU τ x.1 le (itp τ le j).1) else (xV τ x.1 le (itp τ le j).1, x.2.1 + 1, 0)) else x
def ers (τ σ : Int → Int) (le n : Int) : (Int → Int) × Int × Int := it (ers1 τ le) (σ, 0, 0) n
theorem ers_s (τ σ : Int → Int) (le : Int) {n : Int} (h : 0 ≤ n) : ers τ σ le (n + 1) = ers1 τ le n (ers τ σ le n) := it_s _ _ h
def er (τ σ : Int → Int) (le : Int) : (Int → Int) × Int × Int := ers τ σ le ((fin τ le).2 + 1)
theorem ers_stay {τ σ : Int → Int} {le n : Int} (hn : 0 ≤ n) (hc : (ers τ σ le n).2.2 ≠ 0) : ∀ k : Nat, ers τ σ le (n + k) = ers τ σ le n := by
  intro k
  induction k with
  | zero => rw [show n + ((0 : Nat) : Int) = n by omega]
  | succ k ih =>
    rw [show n + ((k + 1 : Nat) : Int) = (n + k) + 1 by omega, ers_s τ σ le (by omega), ih]
    unfold ers1; rw [if_neg hc]
theorem itp_le {τ : Int → Int} {le n : Int} (hl : 0 ≤ le) (hn : 0 ≤ n) (hn2 : n ≤ 40) : (itp τ le n).2 ≤ (fin τ le).2 := by
  have key : ∀ k : Nat, (itp τ le n).2 ≤ (itp τ le (n + k)).2 := by
    intro k
    induction k with
    | zero => rw [show n + ((0 : Nat) : Int) = n by omega]; omega
    | succ k ih =>
      rw [show n + ((k + 1 : Nat) : Int) = (n + k) + 1 by omega, itp_s τ le (by omega)]
      unfold nxt; split
      · show _ ≤ (itp τ le (n + k)).2 + 1; omega
      · exact ih
  have := key (40 - n).toNat
  rw [show n + (((40 - n).toNat : Nat) : Int) = 40 by omega] at this
  exact this
theorem er_stop {τ σ : Int → Int} {le n P : Int} {st : Int → Int} (hl : 0 ≤ le) (hn : 0 ≤ n) (hn2 : n ≤ 39) (he : (P, n) = itp τ le n) (hs : (st, n, 0) = ers τ σ le n) (hu : stp (xU τ st le P)) : er τ σ le = (xV τ st le P, n, xU τ st le P) := by
  have e1 : P = (itp τ le n).1 := by rw [← he]
  have h1 : ers τ σ le (n + 1) = (xV τ st le P, n, xU τ st le P) := by
    rw [ers_s τ σ le hn, ← hs]
    unfold ers1
    rw [if_pos rfl, ← e1, if_pos (show stp (xU τ (st, n, 0).1 le P) from hu)]
  have h2 := itp_le (τ := τ) hl hn (by omega)
  rw [← he] at h2
  have h2 : n ≤ (fin τ le).2 := h2
  have h3 := ers_stay (τ := τ) (σ := σ) (le := le) (n := n + 1) (by omega) (by rw [h1]; show xU τ st le P ≠ 0; omega) ((fin τ le).2 - n).toNat
  rw [show n + 1 + ((((fin τ le).2 - n).toNat : Nat) : Int) = (fin τ le).2 + 1 by omega, h1] at h3
  exact h3
theorem ers_go {τ σ : Int → Int} {le n P : Int} {st : Int → Int} (hn : 0 ≤ n) (he : (P, n) = itp τ le n) (hs : (st, n, 0) = ers τ σ le n) (hu : ¬ stp (xU τ st le P)) : (xV τ st le P, n + 1, 0) = ers τ σ le (n + 1) := by
  have e1 : P = (itp τ le n).1 := by rw [← he]
  rw [ers_s τ σ le hn, ← hs]
  unfold ers1
  rw [if_pos rfl, ← e1, if_neg (show ¬ stp (xU τ (st, n, 0).1 le P) from hu)]
theorem er_end {τ σ : Int → Int} {le n P : Int} {st : Int → Int} (hn : 0 ≤ n) (hn2 : n ≤ 39) (he : (P, n) = itp τ le n) (hc : ¬ cont τ le P) (hs : (st, n, 0) = ers τ σ le n) (hu : ¬ stp (xU τ st le P)) : er τ σ le = (xV τ st le P, n + 1, 0) := by
  have hf := fin_at hn (by omega) he hc
  unfold er
  rw [hf]
  exact (ers_go hn he hs hu).symm
theorem gt_v {fs : List Value} {k : Nat} {a b : Int} (h : fs[k]? = some (.int (jj a))) (e : a = b) : fs[k]? = some (.int (jj b)) := e ▸ h
theorem ltr_b {τ : Int → Int} {le P : Int} (hP : 0 ≤ P) (h : ∀ x : Int, 0 ≤ x → x < le → 0 ≤ τ x ∧ τ x ≤ 65535) : 0 ≤ ltr τ le P ∧ ltr τ le P ≤ 65535 := by
  unfold ltr; split
  · exact h P hP (by omega)
  · omega
def bx (τ q : Int → Int) (le : Int) : Int → Int := if tok τ le (fin τ le).1 then up (rq τ q le (fin τ le).1) 15 0 else up (bq τ q le (fin τ le).1) 15 0
/-- the place of the thing that is done last -/
def lastP (τ σ : Int → Int) (le : Int) : Int := (itp τ le (if (er τ σ le).2.2 = 0 then (er τ σ le).2.1 - 1 else (er τ σ le).2.1)).1
end
section
/-! The ranges are kept by all acts. -/
def Pv (σ : Int → Int) (x : Int) : Prop := (0 ≤ σ (13 + 6 * x + 4) ∧ σ (13 + 6 * x + 4) ≤ 5) ∧ (0 ≤ σ (13 + 6 * x + 1) ∧ σ (13 + 6 * x + 1) ≤ 999) ∧ (10 ≤ σ (13 + 6 * x + 2) ∧ σ (13 + 6 * x + 2) ≤ 999) ∧ (0 ≤ σ (13 + 6 * x + 3) ∧ σ (13 + 6 * x + 3) ≤ 9999) ∧ (0 ≤ σ (13 + 6 * x + 0) ∧ σ (13 + 6 * x + 0) < 200)
def Uv (σ : Int → Int) (x : Int) : Prop := σ (13 + 6 * x + 1) ≤ σ (13 + 6 * x + 2)
def Cv (σ : Int → Int) : Prop := (0 ≤ σ 1 ∧ σ 1 ≤ 200) ∧ (0 ≤ σ 9 ∧ σ 9 ≤ 99999) ∧ (0 ≤ σ 10 ∧ σ 10 ≤ 50) ∧ (1 ≤ σ 11 ∧ σ 11 ≤ 4) ∧ (0 ≤ σ 12 ∧ σ 12 ≤ 99)
theorem Iv_iff {σ : Int → Int} : Iv σ ↔ (0 ≤ σ 0 ∧ σ 0 ≤ 16) ∧ (∀ x : Int, 0 ≤ x → x < σ 0 → Pv σ x ∧ Uv σ x) ∧ Cv σ := by
  constructor
  · rintro ⟨h1, h2, h3, h4, h5, h6, h7⟩
    exact ⟨⟨h1.1, h1.2.1⟩, fun x x0 x1 => ⟨⟨h1.2.2 x x0 x1, h2 x x0 x1, h3 x x0 x1, h4 x x0 x1, h5 x x0 x1⟩, h6 x x0 x1⟩, h7⟩
  · rintro ⟨h1, h2, h3⟩
    exact ⟨⟨h1.1, h1.2, fun x x0 x1 => (h2 x x0 x1).1.1⟩, fun x x0 x1 => (h2 x x0 x1).1.2.1, fun x x0 x1 => (h2 x x0 x1).1.2.2.1, fun x x0 x1 => (h2 x x0 x1).1.2.2.2.1, fun x x0 x1 => (h2 x x0 x1).1.2.2.2.2, fun x x0 x1 => (h2 x x0 x1).2, h3⟩
theorem Pv_of {σ σ' : Int → Int} {x y : Int} (h : Pv σ y) (e : ∀ k : Int, 0 ≤ k → k < 5 → σ' (13 + 6 * x + k) = σ (13 + 6 * y + k)) : Pv σ' x := by
  unfold Pv at h ⊢
  rw [e 4 (by omega) (by omega), e 1 (by omega) (by omega), e 2 (by omega) (by omega), e 3 (by omega) (by omega), e 0 (by omega) (by omega)]
  exact h
theorem Uv_of {σ σ' : Int → Int} {x y : Int} (h : Uv σ y) (e : ∀ k : Int, 0 ≤ k → k < 5 → σ' (13 + 6 * x + k) = σ (13 + 6 * y + k)) : Uv σ' x := by
  unfold Uv at h ⊢
  rw [e 1 (by omega) (by omega), e 2 (by omega) (by omega)]
  exact h
theorem Cv_of {σ σ' : Int → Int} (h : Cv σ) (e1 : σ' 1 = σ 1) (e9 : σ' 9 = σ 9) (e10 : σ' 10 = σ 10) (e11 : σ' 11 = σ 11) (e12 : σ' 12 = σ 12) : Cv σ' := by
  unfold Cv at h ⊢; rw [e1, e9, e10, e11, e12]; exact h
/-- how somebody goes: all behind come on -/
def rmo (rm : (Int → Int) → Int → Int → Int) : Prop := ∀ (st : Int → Int) (p : Int), 0 ≤ p → p < st 0 → st 0 ≤ 16 → rm st p 0 = st 0 - 1 ∧ (∀ k : Int, 1 ≤ k → k < 13 + 6 * p → rm st p k = st k) ∧ ∀ k : Int, 13 + 6 * p ≤ k → k < 13 + 6 * (st 0 - 1) → rm st p k = st (k + 6)
theorem rmo_ok {rm : (Int → Int) → Int → Int → Int} (h : rmo rm) : rmok rm := fun st p h0 h1 h2 => ⟨(h st p h0 h1 h2).1, (h st p h0 h1 h2).2.1⟩
theorem goes_mid (σ : Int → Int) {p k : Int} (h0 : 0 ≤ p) (h1 : 13 + 6 * p ≤ k) (h2 : k < 13 + 6 * (σ 0 - 1)) : goes σ p k = σ (k + 6) := by
  unfold goes gs2 gs1
  rw [if_neg (by omega), if_neg (by omega), if_pos (by omega)]
theorem goes_o : rmo goes := fun st p h0 h1 h2 => ⟨goes_0 st p (by omega), fun k k0 k1 => goes_lo st h1 k0 k1, fun k k0 k1 => goes_mid st h0 k0 k1⟩
theorem rm_P {rm : (Int → Int) → Int → Int → Int} (hr : rmo rm) {st : Int → Int} {p : Int} (h0 : 0 ≤ p) (h1 : p < st 0) (h2 : st 0 ≤ 16) (x : Int) (x0 : 0 ≤ x) (x1 : x < st 0 - 1) : ∀ k : Int, 0 ≤ k → k < 6 → rm st p (13 + 6 * x + k) = st (13 + 6 * (if x < p then x else x + 1) + k) := by
  obtain ⟨-, y2, y3⟩ := hr st p h0 h1 h2
  intro k k0 k1
  split
  · exact y2 _ (by omega) (by omega)
  · rw [y3 _ (by omega) (by omega)]; congr 1; omega
theorem rm_I {rm : (Int → Int) → Int → Int → Int} (hr : rmo rm) {st : Int → Int} {p : Int} (h : Iv st) (h0 : 0 ≤ p) (h1 : p < st 0) : Iv (rm st p) := by
  obtain ⟨b, f, g⟩ := Iv_iff.mp h
  obtain ⟨y1, y2, -⟩ := hr st p h0 h1 b.2
  refine Iv_iff.mpr ⟨by omega, fun x x0 x1 => ?_, Cv_of g (y2 1 (by omega) (by omega)) (y2 9 (by omega) (by omega)) (y2 10 (by omega) (by omega)) (y2 11 (by omega) (by omega)) (y2 12 (by omega) (by omega))⟩
  have e := rm_P hr h0 h1 b.2 x x0 (by omega)
  have hy : 0 ≤ (if x < p then x else x + 1) ∧ (if x < p then x else x + 1) < st 0 := by split <;> omega
  have := f _ hy.1 hy.2
  exact ⟨Pv_of this.1 (fun k k0 k1 => e k k0 (by omega)), Uv_of this.2 (fun k k0 k1 => e k k0 (by omega))⟩
theorem up_I {σ : Int → Int} {i v : Int} (h : Iv σ) (hi : 2 ≤ i ∧ i ≤ 8) : Iv (up σ i v) := by
  obtain ⟨b, f, g⟩ := Iv_iff.mp h
  have e0 : up σ i v 0 = σ 0 := up_n _ _ (by omega)
  refine Iv_iff.mpr ⟨by rw [e0]; exact b, fun x x0 x1 => ?_, Cv_of g (up_n _ _ (by omega)) (up_n _ _ (by omega)) (up_n _ _ (by omega)) (up_n _ _ (by omega)) (up_n _ _ (by omega))⟩
  rw [e0] at x1
  exact ⟨Pv_of (f x x0 x1).1 (fun k k0 k1 => up_n _ _ (by omega)), Uv_of (f x x0 x1).2 (fun k k0 k1 => up_n _ _ (by omega))⟩
theorem lev_I {σ : Int → Int} (h : Iv σ) (p : Int) : Iv (levv σ p) := by
  unfold levv
  split
  · exact up_I (rm_I goes_o h (by omega) (by omega)) (by omega)
  · exact h
theorem com_lo (σ : Int → Int) (pa co wi : Int) (hn : 0 ≤ σ 0) {k : Int} (h : 2 ≤ k) (h1 : k < 13 + 6 * σ 0) : com σ pa co wi k = σ k := by
  show up _ 1 _ k = σ k
  rw [up_n _ _ (by omega), up_n _ _ (by omega), up_n _ _ (by omega), up_n _ _ (by omega), up_n _ _ (by omega), up_n _ _ (by omega), up_n _ _ (by omega), up_n _ _ (by omega)]
theorem com_0 (σ : Int → Int) (pa co wi : Int) (hn : 0 ≤ σ 0) : com σ pa co wi 0 = σ 0 + 1 := by
  show up _ 1 _ 0 = σ 0 + 1
  rw [up_n _ _ (by omega), up_n _ _ (by omega), up_n _ _ (by omega), up_n _ _ (by omega), up_n _ _ (by omega), up_n _ _ (by omega), up_n _ _ (by omega), up_s]
theorem com_1 (σ : Int → Int) (pa co wi : Int) (hn : 0 ≤ σ 0) : com σ pa co wi 1 = σ 1 + 1 := by
  show up _ 1 _ 1 = σ 1 + 1
  rw [up_s, up_n _ _ (by omega), up_n _ _ (by omega), up_n _ _ (by omega), up_n _ _ (by omega), up_n _ _ (by omega), up_n _ _ (by omega), up_n _ _ (by omega)]
theorem com_p (σ : Int → Int) (pa co wi : Int) (hn : 0 ≤ σ 0) : com σ pa co wi (13 + 6 * σ 0 + 0) = σ 1 ∧ com σ pa co wi (13 + 6 * σ 0 + 1) = 0 ∧ com σ pa co wi (13 + 6 * σ 0 + 2) = pa ∧ com σ pa co wi (13 + 6 * σ 0 + 3) = co ∧ com σ pa co wi (13 + 6 * σ 0 + 4) = wi ∧ com σ pa co wi (13 + 6 * σ 0 + 5) = 0 := by
  refine ⟨?_, ?_, ?_, ?_, ?_, ?_⟩
  · show up _ 1 _ (13 + 6 * σ 0 + 0) = σ 1
    rw [up_n _ _ (by omega), up_n _ _ (by omega), up_n _ _ (by omega), up_n _ _ (by omega), up_n _ _ (by omega), up_n _ _ (by omega), up_s, up_n _ _ (by omega)]
  · show up _ 1 _ (13 + 6 * σ 0 + 1) = 0
    rw [up_n _ _ (by omega), up_n _ _ (by omega), up_n _ _ (by omega), up_n _ _ (by omega), up_n _ _ (by omega), up_s]
  · show up _ 1 _ (13 + 6 * σ 0 + 2) = pa
    rw [up_n _ _ (by omega), up_n _ _ (by omega), up_n _ _ (by omega), up_n _ _ (by omega), up_s]
  · show up _ 1 _ (13 + 6 * σ 0 + 3) = co
    rw [up_n _ _ (by omega), up_n _ _ (by omega), up_n _ _ (by omega), up_s]
  · show up _ 1 _ (13 + 6 * σ 0 + 4) = wi
    rw [up_n _ _ (by omega), up_n _ _ (by omega), up_s]
  · show up _ 1 _ (13 + 6 * σ 0 + 5) = 0
    rw [up_n _ _ (by omega), up_s]
theorem com_I {σ : Int → Int} (h : Iv σ) (pa co wi : Int) : Iv (comv σ pa co wi) := by
  unfold comv
  obtain ⟨b, f, g⟩ := Iv_iff.mp h
  by_cases hu : 0 ≤ comu σ pa co wi
  · rw [if_pos hu]
    have hc : comok pa co wi ∧ ¬ (σ 0 = 16 ∨ σ 1 = 200) := by
      unfold comu at hu
      by_cases h1 : comok pa co wi
      · rw [if_pos h1] at hu
        refine ⟨h1, fun h2 => ?_⟩
        rw [if_pos h2] at hu; omega
      · rw [if_neg h1] at hu; omega
    have e0 := com_0 σ pa co wi b.1
    have e1 := com_1 σ pa co wi b.1
    have ep := com_p σ pa co wi b.1
    have g1 := g.1
    refine Iv_iff.mpr ⟨by omega, fun x x0 x1 => ?_, ?_⟩
    · by_cases hx : x < σ 0
      · exact ⟨Pv_of (f x x0 hx).1 (fun k k0 k1 => com_lo σ pa co wi b.1 (by omega) (by omega)), Uv_of (f x x0 hx).2 (fun k k0 k1 => com_lo σ pa co wi b.1 (by omega) (by omega))⟩
      · have : x = σ 0 := by omega
        subst this
        unfold Pv Uv
        rw [ep.1, ep.2.1, ep.2.2.1, ep.2.2.2.1, ep.2.2.2.2.1]
        omega
    · unfold Cv
      rw [e1, com_lo σ pa co wi b.1 (k := 9) (by omega) (by omega), com_lo σ pa co wi b.1 (k := 10) (by omega) (by omega), com_lo σ pa co wi b.1 (k := 11) (by omega) (by omega), com_lo σ pa co wi b.1 (k := 12) (by omega) (by omega)]
      exact ⟨by omega, g.2⟩
  · rw [if_neg hu]; exact h
theorem lt_I {σ : Int → Int} (h : Iv σ) (p : Int) : Iv (ltv σ p) := by
  unfold ltv
  obtain ⟨b, f, g⟩ := Iv_iff.mp h
  by_cases hp : pair σ p
  · rw [if_pos hp]
    obtain ⟨x1, x2, -, x4⟩ := xls_i σ (p := p) (by omega) 6 (by omega) (by omega)
    have e0 := x1 0 (by omega)
    refine Iv_iff.mpr ⟨by rw [e0]; exact b, fun x y0 y1 => ?_, Cv_of g (x1 1 (by omega)) (x1 9 (by omega)) (x1 10 (by omega)) (x1 11 (by omega)) (x1 12 (by omega))⟩
    rw [e0] at y1
    by_cases h1 : x = p
    · subst h1
      have := f (x + 1) (by omega) (by omega)
      exact ⟨Pv_of this.1 (fun k k0 k1 => (x2 k k0 (by omega)).1), Uv_of this.2 (fun k k0 k1 => (x2 k k0 (by omega)).1)⟩
    · by_cases h2 : x = p + 1
      · subst h2
        have := f p (by omega) (by omega)
        exact ⟨Pv_of this.1 (fun k k0 k1 => (x2 k k0 (by omega)).2), Uv_of this.2 (fun k k0 k1 => (x2 k k0 (by omega)).2)⟩
      · have := f x y0 y1
        exact ⟨Pv_of this.1 (fun k k0 k1 => x4 _ (by omega) (by omega)), Uv_of this.2 (fun k k0 k1 => x4 _ (by omega) (by omega))⟩
  · rw [if_neg hp]; exact h
theorem sw3_lo (σ : Int → Int) {p k : Int} (hp : 0 ≤ p) (h : k < 13) (h7 : k ≠ 7) : sw3 σ p k = σ k := by
  unfold sw3 sw2 sw1
  rw [up_n _ _ (by omega), up_n _ _ (by omega), up_n _ _ (by omega), xch_lo σ hp (by omega) h]
theorem sw3_at (σ : Int → Int) {p x k : Int} (hp : 0 ≤ p) (hx : 0 ≤ x) (h0 : 0 ≤ k) (h : k < 4) : sw3 σ p (13 + 6 * x + k) = σ (13 + 6 * x + k) := by
  unfold sw3 sw2 sw1 xch
  rw [up_n _ _ (by omega), up_n _ _ (by omega), up_n _ _ (by omega), up_n _ _ (by omega), up_n _ _ (by omega)]
theorem sw3_w (σ : Int → Int) {p x : Int} (hp : 0 ≤ p) (hx : 0 ≤ x) : sw3 σ p (13 + 6 * x + 4) = if x = p + 1 then σ (13 + 6 * p + 4) else if x = p then σ (13 + 6 * (p + 1) + 4) else σ (13 + 6 * x + 4) := by
  unfold sw3 sw2 sw1
  rw [up_n _ _ (by omega), up_n _ _ (by omega), up_n _ _ (by omega)]
  unfold xch up
  by_cases h1 : x = p + 1
  · rw [if_pos (by omega), if_pos h1]
  · rw [if_neg (by omega), if_neg h1]
    by_cases h2 : x = p
    · rw [if_pos (by omega), if_pos h2]
    · rw [if_neg (by omega), if_neg h2]
theorem sw_I {σ : Int → Int} (h : Iv σ) (p : Int) : Iv (swv σ p) := by
  unfold swv
  obtain ⟨b, f, g⟩ := Iv_iff.mp h
  by_cases hp : pair σ p ∧ ¬ 0 < why σ p
  · rw [if_pos hp]
    have p0 : 0 ≤ p := hp.1.1
    have e0 := sw3_lo σ (k := 0) p0 (by omega) (by omega)
    refine Iv_iff.mpr ⟨by rw [e0]; exact b, fun x y0 y1 => ?_, Cv_of g (sw3_lo σ p0 (by omega) (by omega)) (sw3_lo σ p0 (by omega) (by omega)) (sw3_lo σ p0 (by omega) (by omega)) (sw3_lo σ p0 (by omega) (by omega)) (sw3_lo σ p0 (by omega) (by omega))⟩
    rw [e0] at y1
    have f1 := f x y0 y1
    have f2 := (f p (by omega) (by omega)).1.1
    have f3 := (f (p + 1) (by omega) (by omega)).1.1
    unfold Pv Uv at f1 ⊢
    rw [sw3_w σ p0 y0, sw3_at σ p0 y0 (k := 0) (by omega) (by omega), sw3_at σ p0 y0 (k := 1) (by omega) (by omega), sw3_at σ p0 y0 (k := 2) (by omega) (by omega), sw3_at σ p0 y0 (k := 3) (by omega) (by omega)]
    refine ⟨⟨?_, f1.1.2⟩, f1.2⟩
    split
    · exact f2
    · split
      · exact f3
      · exact f1.1.1
  · rw [if_neg hp]; exact h
theorem set_I {σ : Int → Int} (h : Iv σ) (wh v : Int) : Iv (setv σ wh v) := by
  unfold setv
  obtain ⟨b, f, g⟩ := Iv_iff.mp h
  by_cases hu : 0 ≤ setu σ wh v
  · rw [if_pos hu]
    have hc : (0 ≤ wh ∧ wh ≤ 2) ∧ (slo wh ≤ v ∧ v ≤ shi wh) := by
      unfold setu at hu
      by_cases h1 : 0 ≤ wh ∧ wh ≤ 2
      · rw [if_pos h1] at hu
        by_cases h2 : slo wh ≤ v ∧ v ≤ shi wh
        · exact ⟨h1, h2⟩
        · rw [if_neg h2] at hu; omega
      · rw [if_neg h1] at hu; omega
    have e0 : up σ (10 + wh) v 0 = σ 0 := up_n _ _ (by omega)
    refine Iv_iff.mpr ⟨by rw [e0]; exact b, fun x y0 y1 => ?_, ?_⟩
    · rw [e0] at y1
      exact ⟨Pv_of (f x y0 y1).1 (fun k k0 k1 => up_n _ _ (by omega)), Uv_of (f x y0 y1).2 (fun k k0 k1 => up_n _ _ (by omega))⟩
    · obtain ⟨c1, c2⟩ := hc
      unfold slo shi at c2
      unfold Cv at g ⊢
      unfold up
      rw [if_neg (by omega), if_neg (by omega)]
      refine ⟨g.1, g.2.1, ?_, ?_, ?_⟩
      · (repeat' split) <;> omega
      · (repeat' split) <;> omega
      · (repeat' split) <;> omega
  · rw [if_neg hu]; exact h
theorem dr_I {σ : Int → Int} (h : Iv σ) {mi : Int} (hm : 0 ≤ mi) : Iv (dr σ mi (σ 0)) := by
  obtain ⟨b, f, g⟩ := Iv_iff.mp h
  have e0 : dr σ mi (σ 0) 0 = σ 0 := dr_n σ mi _ (by omega)
  refine Iv_iff.mpr ⟨by rw [e0]; exact b, fun x y0 y1 => ?_, Cv_of g (dr_n σ mi _ (by omega)) (dr_n σ mi _ (by omega)) (dr_n σ mi _ (by omega)) (dr_n σ mi _ (by omega)) (dr_n σ mi _ (by omega))⟩
  rw [e0] at y1
  have f1 := f x y0 y1
  have hw : dr σ mi (σ 0) (13 + 6 * x + 1) = max 0 (σ (13 + 6 * x + 1) - mi * σ 10) := by unfold dr; rw [if_pos (by omega)]
  have hm2 : 0 ≤ mi * σ 10 := Int.mul_nonneg hm g.2.2.1.1
  unfold Pv Uv at f1 ⊢
  rw [hw, dr_n σ mi (σ 0) (k := 13 + 6 * x + 0) (by omega), dr_n σ mi (σ 0) (k := 13 + 6 * x + 2) (by omega), dr_n σ mi (σ 0) (k := 13 + 6 * x + 3) (by omega), dr_n σ mi (σ 0) (k := 13 + 6 * x + 4) (by omega)]
  omega
theorem up9_I {σ : Int → Int} {v : Int} (h : Iv σ) (hv : 0 ≤ v ∧ v ≤ 99999) : Iv (up σ 9 v) := by
  obtain ⟨b, f, g⟩ := Iv_iff.mp h
  have e0 : up σ 9 v 0 = σ 0 := up_n _ _ (by omega)
  refine Iv_iff.mpr ⟨by rw [e0]; exact b, fun x x0 x1 => ?_, ?_⟩
  · rw [e0] at x1
    exact ⟨Pv_of (f x x0 x1).1 (fun k k0 k1 => up_n _ _ (by omega)), Uv_of (f x x0 x1).2 (fun k k0 k1 => up_n _ _ (by omega))⟩
  · unfold Cv at g ⊢
    rw [up_n σ v (show (1 : Int) ≠ 9 by omega), up_s, up_n σ v (show (10 : Int) ≠ 9 by omega), up_n σ v (show (11 : Int) ≠ 9 by omega), up_n σ v (show (12 : Int) ≠ 9 by omega)]
    exact ⟨g.1, hv, g.2.2⟩
theorem pas_I {σ : Int → Int} (h : Iv σ) {mi : Int} (hm : 0 ≤ mi) : Iv (pas σ mi) := by
  unfold pas
  have g := (Iv_iff.mp h).2.2
  have g9 := g.2.1
  split
  · exact h
  · exact up9_I (dr_I h hm) (by omega)
theorem srs_I {σ : Int → Int} (h : Iv σ) {k : Int} (h0 : 0 ≤ k) (h1 : k ≤ σ 0) : Iv (srs σ k) := by
  obtain ⟨b, f, g⟩ := Iv_iff.mp h
  have e0 := srs_z σ k
  have el : ∀ j : Int, 1 ≤ j → j < 13 → srs σ k j = σ j := fun j j0 j1 => by
    unfold srs; rw [if_neg (by omega), if_neg (by omega), if_neg (by omega)]
  refine Iv_iff.mpr ⟨by omega, fun x x0 x1 => ?_, Cv_of g (el 1 (by omega) (by omega)) (el 9 (by omega) (by omega)) (el 10 (by omega) (by omega)) (el 11 (by omega) (by omega)) (el 12 (by omega) (by omega))⟩
  rw [e0] at x1
  have := f (x + k) (by omega) (by omega)
  have e : ∀ j : Int, 0 ≤ j → j < 5 → srs σ k (13 + 6 * x + j) = σ (13 + 6 * (x + k) + j) := fun j j0 j1 => by
    unfold srs; rw [if_neg (by omega), if_pos (by omega)]; congr 1; omega
  exact ⟨Pv_of this.1 e, Uv_of this.2 e⟩
theorem sev_I {σ : Int → Int} (h : Iv σ) : Iv (sev σ) := by
  unfold sev
  obtain ⟨b, f, g⟩ := Iv_iff.mp h
  split
  · exact h
  · have h3 : Iv (sv3 σ) := up_I (up_I (up_I h (by omega)) (by omega)) (by omega)
    have hs := srv_b (σ := σ) (by omega) g.2.2.2.1
    have e3 : sv3 σ 0 = σ 0 := by simp [sv3, sv2, sv1, up]
    exact srs_I h3 (by omega) (by omega)
/-- the ranges, but that somebody may be too wet -/
theorem gw_P {σ : Int → Int} (h : Iv σ) {d side : Int} (hd : 1 ≤ d) (hd2 : d ≤ 99) : ∀ x : Int, 0 ≤ x → x < σ 0 → Pv (gw σ d side (σ 0)) x := by
  intro x x0 x1
  obtain ⟨b, f, g⟩ := Iv_iff.mp h
  have f1 := (f x x0 x1).1
  have hw := gw_y σ d side (σ 0) x0 x1
  have hb := wby_b h.1 (p := x) (side := side) hd hd2 f1.2.1.1
  unfold Pv at f1 ⊢
  rw [hw, gw_n σ d side (σ 0) (k := 13 + 6 * x + 0) (by omega), gw_n σ d side (σ 0) (k := 13 + 6 * x + 2) (by omega), gw_n σ d side (σ 0) (k := 13 + 6 * x + 3) (by omega), gw_n σ d side (σ 0) (k := 13 + 6 * x + 4) (by omega)]
  exact ⟨f1.1, hb, f1.2.2⟩
theorem rms_I {rm : (Int → Int) → Int → Int → Int} (hr : rmo rm) {n : Int} {σ : Int → Int} (hn : σ 0 = n) (hn0 : 0 ≤ n) (hn2 : n ≤ 16) (hP : ∀ x : Int, 0 ≤ x → x < n → Pv σ x) (hC : Cv σ) : Iv (rms rm n σ n) := by
  have key := it_ind (rmf rm n) σ (fun j st => st 0 ≤ n ∧ n - j ≤ st 0 ∧ (∀ x : Int, 0 ≤ x → x < st 0 → Pv st x ∧ (n - j ≤ x → Uv st x)) ∧ Cv st) n ⟨by omega, by omega, fun x x0 x1 => ⟨hP x x0 (by omega), fun h => absurd h (by omega)⟩, hC⟩ (fun j st h0 h1 hx => by
    show rmf rm n j st 0 ≤ n ∧ n - (j + 1) ≤ rmf rm n j st 0 ∧ (∀ x : Int, 0 ≤ x → x < rmf rm n j st 0 → Pv (rmf rm n j st) x ∧ (n - (j + 1) ≤ x → Uv (rmf rm n j st) x)) ∧ Cv (rmf rm n j st)
    obtain ⟨x1, x2, x3, x4⟩ := hx
    unfold rmf
    by_cases hc : st (13 + 6 * (n - 1 - j) + 2) < st (13 + 6 * (n - 1 - j) + 1)
    · rw [if_pos hc]
      obtain ⟨y1, y2, -⟩ := hr st (n - 1 - j) (by omega) (by omega) (by omega)
      refine ⟨by omega, by omega, fun x w0 w1 => ?_, Cv_of x4 (y2 1 (by omega) (by omega)) (y2 9 (by omega) (by omega)) (y2 10 (by omega) (by omega)) (y2 11 (by omega) (by omega)) (y2 12 (by omega) (by omega))⟩
      have e := rm_P hr (st := st) (p := n - 1 - j) (by omega) (by omega) (by omega) x w0 (by omega)
      by_cases hx : x < n - 1 - j
      · simp only [if_pos hx] at e
        exact ⟨Pv_of (x3 x w0 (by omega)).1 (fun k k0 k1 => e k k0 (by omega)), fun hh => absurd hh (by omega)⟩
      · simp only [if_neg hx] at e
        have := x3 (x + 1) (by omega) (by omega)
        exact ⟨Pv_of this.1 (fun k k0 k1 => e k k0 (by omega)), fun _ => Uv_of (this.2 (by omega)) (fun k k0 k1 => e k k0 (by omega))⟩
    · rw [if_neg hc]
      refine ⟨by omega, by omega, fun x w0 w1 => ⟨(x3 x w0 w1).1, fun hh => ?_⟩, x4⟩
      by_cases hx : n - j ≤ x
      · exact (x3 x w0 w1).2 hx
      · have : x = n - 1 - j := by omega
        subst this
        unfold Uv; omega) n hn0 (Int.le_refl n)
  obtain ⟨k1, k2, k3, k4⟩ := key
  refine Iv_iff.mpr ⟨?_, fun x x0 x1 => ?_, k4⟩
  · show 0 ≤ it (rmf rm n) σ n 0 ∧ it (rmf rm n) σ n 0 ≤ 16
    omega
  · have := k3 x x0 x1
    exact ⟨this.1, this.2 (by omega)⟩
theorem gR_I {σ : Int → Int} (h : Iv σ) {d side : Int} (hd : 1 ≤ d) (hd2 : d ≤ 99) : Iv (gR σ d side) := by
  obtain ⟨b, f, g⟩ := Iv_iff.mp h
  exact rms_I goes_o (gw_n σ d side _ (by omega)) b.1 b.2 (gw_P h hd hd2) (Cv_of g (gw_n σ d side _ (by omega)) (gw_n σ d side _ (by omega)) (gw_n σ d side _ (by omega)) (gw_n σ d side _ (by omega)) (gw_n σ d side _ (by omega)))
theorem gus_I {σ : Int → Int} (h : Iv σ) {d side : Int} (hd : 1 ≤ d) (hd2 : d ≤ 99) : Iv (gus σ d side) := by
  unfold gus
  split
  · exact h
  · exact up_I (up_I (gR_I h hd hd2) (by omega)) (by omega)
theorem gur_b {σ : Int → Int} (h : Iv σ) {d side : Int} (hd : 1 ≤ d) (hd2 : d ≤ 99) : -5 ≤ gur σ d side ∧ gur σ d side ≤ 16 ∧ (gur σ d side < 0 → gur σ d side = -5) := by
  obtain ⟨b, f, g⟩ := Iv_iff.mp h
  have hR := rms_i goes_ok (σ := gw σ d side (σ 0)) (n := σ 0) (gw_n σ d side (σ 0) (by omega)) b.2 (σ 0) b.1 (Int.le_refl _)
  have h1 : gR σ d side 0 ≤ σ 0 := hR.1
  have h2 : σ 0 - σ 0 ≤ gR σ d side 0 := hR.2.1
  unfold gur
  split <;> omega
theorem seu_b {σ : Int → Int} (h : Iv σ) : -5 ≤ seu σ ∧ seu σ ≤ 9999 ∧ (seu σ < 0 → seu σ = -5) := by
  obtain ⟨hW, hE, hP, hC, hN, hU, h1, h9, h10, h11, h12⟩ := h
  unfold seu
  by_cases h0 : σ 0 = 0
  · rw [if_pos h0]; omega
  · rw [if_neg h0]
    have := hW.1
    have := hW.2.1
    have hs := srv_b (σ := σ) (by omega) h11
    have hd := dri_b σ (n := srv σ) (by omega)
    have hc := hC (dri σ (srv σ)) (by omega) (by omega)
    have hf := far_b (x := srv σ) (d := σ 12) (by omega) (by omega) h12.1 h12.2
    unfold cpd; omega
theorem pau_b {σ : Int → Int} (h : Iv σ) (mi : Int) : -3 ≤ pau σ mi ∧ pau σ mi ≤ 16 ∧ (pau σ mi < 0 → pau σ mi = -3 ∧ pas σ mi = σ) := by
  have hb := drn_b σ mi h.1.1
  have := h.1.2.1
  unfold pau pas
  split
  · exact ⟨by omega, by omega, fun _ => ⟨rfl, rfl⟩⟩
  · exact ⟨by omega, by omega, fun hh => absurd hh (by omega)⟩
theorem swu_b {σ : Int → Int} (h : Iv σ) (p : Int) : -13 ≤ swu σ p ∧ swu σ p ≤ 5 ∧ (swu σ p < 0 → (swu σ p = -1 ∨ swu σ p ≤ -11) ∧ swv σ p = σ) := by
  have hy := why_b σ p
  unfold swu swv
  by_cases hp : pair σ p
  · rw [if_pos hp]
    by_cases hw : 0 < why σ p
    · rw [if_pos hw, if_neg (by omega)]
      exact ⟨by omega, by omega, fun _ => ⟨by omega, rfl⟩⟩
    · rw [if_neg hw, sw3_w σ hp.1 hp.1, if_neg (by omega), if_pos rfl]
      have := h.1.2.2 (p + 1) (by omega) (by omega)
      exact ⟨by omega, by omega, fun hh => absurd hh (by omega)⟩
  · rw [if_neg hp, if_neg (by omega)]
    exact ⟨by omega, by omega, fun _ => ⟨by omega, rfl⟩⟩
abbrev exok (cL nu sd : Int) : Prop := (cL = 103 → (1 ≤ nu ∧ nu ≤ 99) ∧ (0 ≤ sd ∧ sd ≤ 2)) ∧ (cL = 46 → 1 ≤ nu ∧ nu ≤ 99) ∧ (0 ≤ nu ∧ nu ≤ 99)
theorem exV_I {σ : Int → Int} (h : Iv σ) {cL nu sd : Int} (hv : exok cL nu sd) : Iv (exV σ cL nu sd) := by
  unfold exV
  by_cases c1 : cL = 103
  · rw [if_pos c1]; exact gus_I h (hv.1 c1).1.1 (hv.1 c1).1.2
  · rw [if_neg c1]
    by_cases c2 : cL = 46
    · rw [if_pos c2]; exact pas_I h (by omega)
    · rw [if_neg c2]
      split
      · exact sev_I h
      · exact sw_I h nu
theorem exU_b {σ : Int → Int} (h : Iv σ) {cL nu sd : Int} (hv : exok cL nu sd) : -13 ≤ exU σ cL nu sd ∧ exU σ cL nu sd ≤ 9999 ∧ (exU σ cL nu sd < 0 → exU σ cL nu sd = -5 ∨ exU σ cL nu sd = -3 ∨ exU σ cL nu sd = -1 ∨ exU σ cL nu sd ≤ -11) := by
  unfold exU
  by_cases c1 : cL = 103
  · rw [if_pos c1]; have := gur_b h (side := sd) (hv.1 c1).1.1 (hv.1 c1).1.2; omega
  · rw [if_neg c1]
    by_cases c2 : cL = 46
    · rw [if_pos c2]; have := pau_b h nu; omega
    · rw [if_neg c2]
      split
      · have := seu_b h; omega
      · have := swu_b h nu; omega
theorem tok_ex {τ : Int → Int} {le P : Int} (h : tok τ le P) : exok (ltr τ le P) (tnu τ le P) (tsi τ le P) := by
  have h1 := tnu_b h
  have h2 := tsi_b τ le P
  refine ⟨fun hh => ⟨⟨h1.2.2.2 (Or.inl hh), h1.2.1⟩, h2.1, h2.2.1⟩, fun hh => ⟨h1.2.2.2 (Or.inr hh), h1.2.1⟩, h1.1, h1.2.1⟩
theorem er_b (τ σ : Int → Int) (le : Int) (hl : 0 ≤ le) : (er τ σ le).2.2 ≤ 0 ∧ -10 < (er τ σ le).2.2 := by
  have hf := itp_b τ hl 40 (by omega)
  have h0 : 0 ≤ (fin τ le).2 := hf.1
  have := it_ind (ers1 τ le) (σ, 0, 0) (fun _ x => x.2.2 ≤ 0 ∧ -10 < x.2.2) ((fin τ le).2 + 1) ⟨Int.le_refl 0, by show (-10 : Int) < 0; omega⟩ (fun i x h1 h2 hx => by
    show (ers1 τ le i x).2.2 ≤ 0 ∧ -10 < (ers1 τ le i x).2.2
    unfold ers1
    split
    · split
      · next hs => exact ⟨by show xU τ x.1 le (itp τ le i).1 ≤ 0; omega, hs.2.2⟩
      · exact ⟨Int.le_refl 0, by show (-10 : Int) < 0; omega⟩
    · exact hx) ((fin τ le).2 + 1) (by omega) (Int.le_refl _)
  exact this
/-! perform -/
def pfU (τ σ : Int → Int) (le : Int) : Int := if wok τ le then (if (er τ σ le).2.2 < 0 then -4 else (er τ σ le).2.1) else -100 - flt τ le
def pfV (τ σ : Int → Int) (le : Int) : Int → Int := if wok τ le ∧ ¬ (er τ σ le).2.2 < 0 then (er τ σ le).1 else σ
def pfq2 (τ σ q : Int → Int) (le : Int) : Int → Int := up (rq τ (up (rq τ q le (fin τ le).1) 15 0) le (lastP τ σ le)) 15 (er τ σ le).2.2
def pfQ (τ σ q : Int → Int) (le : Int) : Int → Int := if wok τ le then (if (er τ σ le).2.2 < 0 then up (up (pfq2 τ σ q le) 8 (er τ σ le).2.1) 9 (er τ σ le).2.2 else rcQ (pfq2 τ σ q le)) else up (up (bx τ q le) 11 1) 10 (flt τ le)
end
section
/-! A State's rows: gaps, exchanges, copies. -/
def cgp (f : Int → Int) (p : Int) : Int → Int := fun i => if p ≤ i ∧ i < 15 then f (i + 1) else f i
def xcr (f : Int → Int) (p : Int) : Int → Int := up (up f p (f (p + 1))) (p + 1) (f p)
theorem ac_cpy (f g : Int → Int) {sp dp n : Int} (h1 : 0 ≤ sp ∧ sp ≤ 1000) (h2 : 0 ≤ dp ∧ dp ≤ 1000) (h3 : 0 ≤ n ∧ n ≤ 1000) : va_cpy (ac f) (ac g) (jj sp).toNatClampNeg (jj dp).toNatClampNeg (jj n).toNatClampNeg = ac (fun i => if dp ≤ i ∧ i < dp + n then f (sp + (i - dp)) else g i) := by
  funext k
  have e1 := jj_cl (i := sp) h1.1 (by omega)
  have e2 := jj_cl (i := dp) h2.1 (by omega)
  have e3 := jj_cl (i := n) h3.1 (by omega)
  unfold va_cpy ac
  show _ = jj (if dp ≤ (k : Int) ∧ (k : Int) < dp + n then f (sp + ((k : Int) - dp)) else g (k : Int))
  by_cases c : dp ≤ (k : Int) ∧ (k : Int) < dp + n
  · rw [if_pos (by omega), if_pos c]; congr 2; omega
  · rw [if_neg (by omega), if_neg c]
theorem fr_set {ws : va_W} {i : Nat} {x y : Nat × va_E} (h : ws[i]? = some x) : Fr ws [x] [y] (ws.set i y) := by
  induction ws generalizing i with
  | nil => simp at h
  | cons z zs ih =>
    cases i with
    | zero =>
      have hz : z = x := by simpa using h
      subst hz
      exact ⟨zs, List.Perm.refl _, List.Perm.refl _⟩
    | succ i =>
      obtain ⟨v, h1, h2⟩ := ih (i := i) (by simpa using h)
      exact ⟨z :: v, (h1.cons z).trans (List.Perm.swap x z v), (List.Perm.swap z y v).trans (h2.cons z)⟩
theorem fr_self {ws : va_W} {i : Nat} {x : Nat × va_E} (h : ws[i]? = some x) : Fr ws [x] [x] ws := by
  obtain ⟨v, h1, -⟩ := fr_set (y := x) h
  exact ⟨v, h1, h1.symm⟩
theorem fr_to {ws wc w1 ws' ws'' : va_W} (h : Fr ws wc w1 ws') (e : ws' = ws'') : Fr ws wc w1 ws'' := e ▸ h
/-- rows below m have their gap at p closed -/
def rgp (σ : Int → Int) (p m : Int) : Int → Int := fun j => if 13 + 6 * p ≤ j ∧ j < 103 ∧ (j - 13) % 6 < m then σ (j + 6) else σ j
theorem rgp_0 (σ : Int → Int) (p : Int) : rgp σ p 0 = σ := by
  funext j; unfold rgp; rw [if_neg (by omega)]
theorem rgp_lo (σ : Int → Int) {p m j : Int} (hp : 0 ≤ p) (h : j < 13) : rgp σ p m j = σ j := by
  unfold rgp; rw [if_neg (by omega)]
theorem rgp_ne (σ : Int → Int) (p : Int) {k k' : Int} (h0 : 0 ≤ k) (h1 : k < 6) (h2 : 0 ≤ k') (h3 : k' < 6) (h : k ≠ k') : rr (rgp σ p (k + 1)) k' = rr (rgp σ p k) k' := by
  funext i; unfold rr rgp
  by_cases c : 13 + 6 * p ≤ 13 + 6 * i + k' ∧ 13 + 6 * i + k' < 103 ∧ (13 + 6 * i + k' - 13) % 6 < k
  · rw [if_pos (by omega), if_pos c]
  · rw [if_neg (by omega), if_neg c]
theorem rgp_eq (σ : Int → Int) (p : Int) {k : Int} (h0 : 0 ≤ k) (h1 : k < 6) : rr (rgp σ p (k + 1)) k = cgp (rr (rgp σ p k) k) p := by
  funext i
  show (if 13 + 6 * p ≤ 13 + 6 * i + k ∧ 13 + 6 * i + k < 103 ∧ (13 + 6 * i + k - 13) % 6 < k + 1 then σ (13 + 6 * i + k + 6) else σ (13 + 6 * i + k)) = if p ≤ i ∧ i < 15 then (if 13 + 6 * p ≤ 13 + 6 * (i + 1) + k ∧ 13 + 6 * (i + 1) + k < 103 ∧ (13 + 6 * (i + 1) + k - 13) % 6 < k then σ (13 + 6 * (i + 1) + k + 6) else σ (13 + 6 * (i + 1) + k)) else (if 13 + 6 * p ≤ 13 + 6 * i + k ∧ 13 + 6 * i + k < 103 ∧ (13 + 6 * i + k - 13) % 6 < k then σ (13 + 6 * i + k + 6) else σ (13 + 6 * i + k))
  by_cases c : p ≤ i ∧ i < 15
  · rw [if_pos c, if_pos (by omega), if_neg (by omega)]; congr 1; omega
  · rw [if_neg c, if_neg (by omega), if_neg (by omega)]
theorem sFs_cong (ad : Nat → Nat) {σ σ' : Int → Int} (h : ∀ j : Int, 0 ≤ j → j < 10 → σ' j = σ j) : sFs ad σ' = sFs ad σ := by
  unfold sFs
  rw [h 0 (by omega) (by omega), h 1 (by omega) (by omega), h 2 (by omega) (by omega), h 3 (by omega) (by omega), h 4 (by omega) (by omega), h 5 (by omega) (by omega), h 6 (by omega) (by omega), h 7 (by omega) (by omega), h 8 (by omega) (by omega), h 9 (by omega) (by omega)]
theorem sg_cong {σ σ' : Int → Int} (h : ∀ j : Int, 10 ≤ j → j < 13 → σ' j = σ j) : sg σ' = sg σ := by
  funext i; unfold sg; split
  · exact h _ (by omega) (by omega)
  · rfl
theorem eg0 (cI : ClassId) (h : Nat) (ad : Nat → Nat) (σ : Int → Int) {p : Int} (hp : 0 ≤ p) : (cSt cI h ad (rgp σ p 0)).set 1 (ad 0, .inl (cI, 16, .inl (ac (cgp (rr (rgp σ p 0) 0) p)))) = cSt cI h ad (rgp σ p 1) := by
  have e1 : sFs ad (rgp σ p 1) = sFs ad (rgp σ p 0) := sFs_cong ad (fun j j0 j1 => by rw [rgp_lo σ hp (by omega), rgp_lo σ hp (by omega)])
  have e2 : sg (rgp σ p 1) = sg (rgp σ p 0) := sg_cong (fun j j0 j1 => by rw [rgp_lo σ hp (by omega), rgp_lo σ hp (by omega)])
  have e3 : rr (rgp σ p 1) 0 = cgp (rr (rgp σ p 0) 0) p := rgp_eq σ p (k := 0) (by omega) (by omega)
  have e4_1 : rr (rgp σ p 1) 1 = rr (rgp σ p 0) 1 := rgp_ne σ p (k := 0) (k' := 1) (by omega) (by omega) (by omega) (by omega) (by omega)
  have e4_2 : rr (rgp σ p 1) 2 = rr (rgp σ p 0) 2 := rgp_ne σ p (k := 0) (k' := 2) (by omega) (by omega) (by omega) (by omega) (by omega)
  have e4_3 : rr (rgp σ p 1) 3 = rr (rgp σ p 0) 3 := rgp_ne σ p (k := 0) (k' := 3) (by omega) (by omega) (by omega) (by omega) (by omega)
  have e4_4 : rr (rgp σ p 1) 4 = rr (rgp σ p 0) 4 := rgp_ne σ p (k := 0) (k' := 4) (by omega) (by omega) (by omega) (by omega) (by omega)
  have e4_5 : rr (rgp σ p 1) 5 = rr (rgp σ p 0) 5 := rgp_ne σ p (k := 0) (k' := 5) (by omega) (by omega) (by omega) (by omega) (by omega)
  unfold cSt
  rw [e1, e2, e3, e4_1, e4_2, e4_3, e4_4, e4_5]
  rfl
theorem fg0 {cI : ClassId} {h : Nat} {ad : Nat → Nat} {σ : Int → Int} {p : Int} (hp : 0 ≤ p) : Fr (cSt cI h ad (rgp σ p 0)) [(ad 0, .inl (cI, 16, .inl (ac (rr (rgp σ p 0) 0))))] [(ad 0, .inl (cI, 16, .inl (ac (cgp (rr (rgp σ p 0) 0) p))))] (cSt cI h ad (rgp σ p 1)) := fr_to (fr_set (i := 1) rfl) (eg0 cI h ad σ hp)
theorem ex0 (cI : ClassId) (h : Nat) (ad : Nat → Nat) (σ : Int → Int) {p : Int} (hp : 0 ≤ p) : (cSt cI h ad σ).set 1 (ad 0, .inl (cI, 16, .inl (ac (xcr (rr σ 0) p)))) = cSt cI h ad (xch σ p 0) := by
  have h1 := sR0 cI h ad σ p (σ (13 + 6 * (p + 1) + 0)) hp
  have h2 := sR0 cI h ad (up σ (13 + 6 * p + 0) (σ (13 + 6 * (p + 1) + 0))) (p + 1) (σ (13 + 6 * p + 0)) (by omega)
  rw [rr_eq] at h2
  unfold xch
  rw [← h2, ← h1, List.set_set]
  rfl
theorem fx0 {cI : ClassId} {h : Nat} {ad : Nat → Nat} {σ : Int → Int} {p : Int} (hp : 0 ≤ p) : Fr (cSt cI h ad σ) [(ad 0, .inl (cI, 16, .inl (ac (rr σ 0))))] [(ad 0, .inl (cI, 16, .inl (ac (xcr (rr σ 0) p))))] (cSt cI h ad (xch σ p 0)) := fr_to (fr_set (i := 1) rfl) (ex0 cI h ad σ hp)
theorem fs0 {cI : ClassId} {h : Nat} {ad : Nat → Nat} {σ : Int → Int} : Fr (cSt cI h ad σ) [(ad 0, .inl (cI, 16, .inl (ac (rr σ 0))))] [(ad 0, .inl (cI, 16, .inl (ac (rr σ 0))))] (cSt cI h ad σ) := fr_self (i := 1) rfl
theorem eg1 (cI : ClassId) (h : Nat) (ad : Nat → Nat) (σ : Int → Int) {p : Int} (hp : 0 ≤ p) : (cSt cI h ad (rgp σ p 1)).set 2 (ad 1, .inl (cI, 16, .inl (ac (cgp (rr (rgp σ p 1) 1) p)))) = cSt cI h ad (rgp σ p 2) := by
  have e1 : sFs ad (rgp σ p 2) = sFs ad (rgp σ p 1) := sFs_cong ad (fun j j0 j1 => by rw [rgp_lo σ hp (by omega), rgp_lo σ hp (by omega)])
  have e2 : sg (rgp σ p 2) = sg (rgp σ p 1) := sg_cong (fun j j0 j1 => by rw [rgp_lo σ hp (by omega), rgp_lo σ hp (by omega)])
  have e3 : rr (rgp σ p 2) 1 = cgp (rr (rgp σ p 1) 1) p := rgp_eq σ p (k := 1) (by omega) (by omega)
  have e4_0 : rr (rgp σ p 2) 0 = rr (rgp σ p 1) 0 := rgp_ne σ p (k := 1) (k' := 0) (by omega) (by omega) (by omega) (by omega) (by omega)
  have e4_2 : rr (rgp σ p 2) 2 = rr (rgp σ p 1) 2 := rgp_ne σ p (k := 1) (k' := 2) (by omega) (by omega) (by omega) (by omega) (by omega)
  have e4_3 : rr (rgp σ p 2) 3 = rr (rgp σ p 1) 3 := rgp_ne σ p (k := 1) (k' := 3) (by omega) (by omega) (by omega) (by omega) (by omega)
  have e4_4 : rr (rgp σ p 2) 4 = rr (rgp σ p 1) 4 := rgp_ne σ p (k := 1) (k' := 4) (by omega) (by omega) (by omega) (by omega) (by omega)
  have e4_5 : rr (rgp σ p 2) 5 = rr (rgp σ p 1) 5 := rgp_ne σ p (k := 1) (k' := 5) (by omega) (by omega) (by omega) (by omega) (by omega)
  unfold cSt
  rw [e1, e2, e3, e4_0, e4_2, e4_3, e4_4, e4_5]
  rfl
theorem fg1 {cI : ClassId} {h : Nat} {ad : Nat → Nat} {σ : Int → Int} {p : Int} (hp : 0 ≤ p) : Fr (cSt cI h ad (rgp σ p 1)) [(ad 1, .inl (cI, 16, .inl (ac (rr (rgp σ p 1) 1))))] [(ad 1, .inl (cI, 16, .inl (ac (cgp (rr (rgp σ p 1) 1) p))))] (cSt cI h ad (rgp σ p 2)) := fr_to (fr_set (i := 2) rfl) (eg1 cI h ad σ hp)
theorem ex1 (cI : ClassId) (h : Nat) (ad : Nat → Nat) (σ : Int → Int) {p : Int} (hp : 0 ≤ p) : (cSt cI h ad σ).set 2 (ad 1, .inl (cI, 16, .inl (ac (xcr (rr σ 1) p)))) = cSt cI h ad (xch σ p 1) := by
  have h1 := sR1 cI h ad σ p (σ (13 + 6 * (p + 1) + 1)) hp
  have h2 := sR1 cI h ad (up σ (13 + 6 * p + 1) (σ (13 + 6 * (p + 1) + 1))) (p + 1) (σ (13 + 6 * p + 1)) (by omega)
  rw [rr_eq] at h2
  unfold xch
  rw [← h2, ← h1, List.set_set]
  rfl
theorem fx1 {cI : ClassId} {h : Nat} {ad : Nat → Nat} {σ : Int → Int} {p : Int} (hp : 0 ≤ p) : Fr (cSt cI h ad σ) [(ad 1, .inl (cI, 16, .inl (ac (rr σ 1))))] [(ad 1, .inl (cI, 16, .inl (ac (xcr (rr σ 1) p))))] (cSt cI h ad (xch σ p 1)) := fr_to (fr_set (i := 2) rfl) (ex1 cI h ad σ hp)
theorem fs1 {cI : ClassId} {h : Nat} {ad : Nat → Nat} {σ : Int → Int} : Fr (cSt cI h ad σ) [(ad 1, .inl (cI, 16, .inl (ac (rr σ 1))))] [(ad 1, .inl (cI, 16, .inl (ac (rr σ 1))))] (cSt cI h ad σ) := fr_self (i := 2) rfl
theorem eg2 (cI : ClassId) (h : Nat) (ad : Nat → Nat) (σ : Int → Int) {p : Int} (hp : 0 ≤ p) : (cSt cI h ad (rgp σ p 2)).set 3 (ad 2, .inl (cI, 16, .inl (ac (cgp (rr (rgp σ p 2) 2) p)))) = cSt cI h ad (rgp σ p 3) := by
  have e1 : sFs ad (rgp σ p 3) = sFs ad (rgp σ p 2) := sFs_cong ad (fun j j0 j1 => by rw [rgp_lo σ hp (by omega), rgp_lo σ hp (by omega)])
  have e2 : sg (rgp σ p 3) = sg (rgp σ p 2) := sg_cong (fun j j0 j1 => by rw [rgp_lo σ hp (by omega), rgp_lo σ hp (by omega)])
  have e3 : rr (rgp σ p 3) 2 = cgp (rr (rgp σ p 2) 2) p := rgp_eq σ p (k := 2) (by omega) (by omega)
  have e4_0 : rr (rgp σ p 3) 0 = rr (rgp σ p 2) 0 := rgp_ne σ p (k := 2) (k' := 0) (by omega) (by omega) (by omega) (by omega) (by omega)
  have e4_1 : rr (rgp σ p 3) 1 = rr (rgp σ p 2) 1 := rgp_ne σ p (k := 2) (k' := 1) (by omega) (by omega) (by omega) (by omega) (by omega)
  have e4_3 : rr (rgp σ p 3) 3 = rr (rgp σ p 2) 3 := rgp_ne σ p (k := 2) (k' := 3) (by omega) (by omega) (by omega) (by omega) (by omega)
  have e4_4 : rr (rgp σ p 3) 4 = rr (rgp σ p 2) 4 := rgp_ne σ p (k := 2) (k' := 4) (by omega) (by omega) (by omega) (by omega) (by omega)
  have e4_5 : rr (rgp σ p 3) 5 = rr (rgp σ p 2) 5 := rgp_ne σ p (k := 2) (k' := 5) (by omega) (by omega) (by omega) (by omega) (by omega)
  unfold cSt
  rw [e1, e2, e3, e4_0, e4_1, e4_3, e4_4, e4_5]
  rfl
theorem fg2 {cI : ClassId} {h : Nat} {ad : Nat → Nat} {σ : Int → Int} {p : Int} (hp : 0 ≤ p) : Fr (cSt cI h ad (rgp σ p 2)) [(ad 2, .inl (cI, 16, .inl (ac (rr (rgp σ p 2) 2))))] [(ad 2, .inl (cI, 16, .inl (ac (cgp (rr (rgp σ p 2) 2) p))))] (cSt cI h ad (rgp σ p 3)) := fr_to (fr_set (i := 3) rfl) (eg2 cI h ad σ hp)
theorem ex2 (cI : ClassId) (h : Nat) (ad : Nat → Nat) (σ : Int → Int) {p : Int} (hp : 0 ≤ p) : (cSt cI h ad σ).set 3 (ad 2, .inl (cI, 16, .inl (ac (xcr (rr σ 2) p)))) = cSt cI h ad (xch σ p 2) := by
  have h1 := sR2 cI h ad σ p (σ (13 + 6 * (p + 1) + 2)) hp
  have h2 := sR2 cI h ad (up σ (13 + 6 * p + 2) (σ (13 + 6 * (p + 1) + 2))) (p + 1) (σ (13 + 6 * p + 2)) (by omega)
  rw [rr_eq] at h2
  unfold xch
  rw [← h2, ← h1, List.set_set]
  rfl
theorem fx2 {cI : ClassId} {h : Nat} {ad : Nat → Nat} {σ : Int → Int} {p : Int} (hp : 0 ≤ p) : Fr (cSt cI h ad σ) [(ad 2, .inl (cI, 16, .inl (ac (rr σ 2))))] [(ad 2, .inl (cI, 16, .inl (ac (xcr (rr σ 2) p))))] (cSt cI h ad (xch σ p 2)) := fr_to (fr_set (i := 3) rfl) (ex2 cI h ad σ hp)
theorem fs2 {cI : ClassId} {h : Nat} {ad : Nat → Nat} {σ : Int → Int} : Fr (cSt cI h ad σ) [(ad 2, .inl (cI, 16, .inl (ac (rr σ 2))))] [(ad 2, .inl (cI, 16, .inl (ac (rr σ 2))))] (cSt cI h ad σ) := fr_self (i := 3) rfl
theorem eg3 (cI : ClassId) (h : Nat) (ad : Nat → Nat) (σ : Int → Int) {p : Int} (hp : 0 ≤ p) : (cSt cI h ad (rgp σ p 3)).set 4 (ad 3, .inl (cI, 16, .inl (ac (cgp (rr (rgp σ p 3) 3) p)))) = cSt cI h ad (rgp σ p 4) := by
  have e1 : sFs ad (rgp σ p 4) = sFs ad (rgp σ p 3) := sFs_cong ad (fun j j0 j1 => by rw [rgp_lo σ hp (by omega), rgp_lo σ hp (by omega)])
  have e2 : sg (rgp σ p 4) = sg (rgp σ p 3) := sg_cong (fun j j0 j1 => by rw [rgp_lo σ hp (by omega), rgp_lo σ hp (by omega)])
  have e3 : rr (rgp σ p 4) 3 = cgp (rr (rgp σ p 3) 3) p := rgp_eq σ p (k := 3) (by omega) (by omega)
  have e4_0 : rr (rgp σ p 4) 0 = rr (rgp σ p 3) 0 := rgp_ne σ p (k := 3) (k' := 0) (by omega) (by omega) (by omega) (by omega) (by omega)
  have e4_1 : rr (rgp σ p 4) 1 = rr (rgp σ p 3) 1 := rgp_ne σ p (k := 3) (k' := 1) (by omega) (by omega) (by omega) (by omega) (by omega)
  have e4_2 : rr (rgp σ p 4) 2 = rr (rgp σ p 3) 2 := rgp_ne σ p (k := 3) (k' := 2) (by omega) (by omega) (by omega) (by omega) (by omega)
  have e4_4 : rr (rgp σ p 4) 4 = rr (rgp σ p 3) 4 := rgp_ne σ p (k := 3) (k' := 4) (by omega) (by omega) (by omega) (by omega) (by omega)
  have e4_5 : rr (rgp σ p 4) 5 = rr (rgp σ p 3) 5 := rgp_ne σ p (k := 3) (k' := 5) (by omega) (by omega) (by omega) (by omega) (by omega)
  unfold cSt
  rw [e1, e2, e3, e4_0, e4_1, e4_2, e4_4, e4_5]
  rfl
theorem fg3 {cI : ClassId} {h : Nat} {ad : Nat → Nat} {σ : Int → Int} {p : Int} (hp : 0 ≤ p) : Fr (cSt cI h ad (rgp σ p 3)) [(ad 3, .inl (cI, 16, .inl (ac (rr (rgp σ p 3) 3))))] [(ad 3, .inl (cI, 16, .inl (ac (cgp (rr (rgp σ p 3) 3) p))))] (cSt cI h ad (rgp σ p 4)) := fr_to (fr_set (i := 4) rfl) (eg3 cI h ad σ hp)
theorem ex3 (cI : ClassId) (h : Nat) (ad : Nat → Nat) (σ : Int → Int) {p : Int} (hp : 0 ≤ p) : (cSt cI h ad σ).set 4 (ad 3, .inl (cI, 16, .inl (ac (xcr (rr σ 3) p)))) = cSt cI h ad (xch σ p 3) := by
  have h1 := sR3 cI h ad σ p (σ (13 + 6 * (p + 1) + 3)) hp
  have h2 := sR3 cI h ad (up σ (13 + 6 * p + 3) (σ (13 + 6 * (p + 1) + 3))) (p + 1) (σ (13 + 6 * p + 3)) (by omega)
  rw [rr_eq] at h2
  unfold xch
  rw [← h2, ← h1, List.set_set]
  rfl
theorem fx3 {cI : ClassId} {h : Nat} {ad : Nat → Nat} {σ : Int → Int} {p : Int} (hp : 0 ≤ p) : Fr (cSt cI h ad σ) [(ad 3, .inl (cI, 16, .inl (ac (rr σ 3))))] [(ad 3, .inl (cI, 16, .inl (ac (xcr (rr σ 3) p))))] (cSt cI h ad (xch σ p 3)) := fr_to (fr_set (i := 4) rfl) (ex3 cI h ad σ hp)
theorem fs3 {cI : ClassId} {h : Nat} {ad : Nat → Nat} {σ : Int → Int} : Fr (cSt cI h ad σ) [(ad 3, .inl (cI, 16, .inl (ac (rr σ 3))))] [(ad 3, .inl (cI, 16, .inl (ac (rr σ 3))))] (cSt cI h ad σ) := fr_self (i := 4) rfl
theorem eg4 (cI : ClassId) (h : Nat) (ad : Nat → Nat) (σ : Int → Int) {p : Int} (hp : 0 ≤ p) : (cSt cI h ad (rgp σ p 4)).set 5 (ad 4, .inl (cI, 16, .inl (ac (cgp (rr (rgp σ p 4) 4) p)))) = cSt cI h ad (rgp σ p 5) := by
  have e1 : sFs ad (rgp σ p 5) = sFs ad (rgp σ p 4) := sFs_cong ad (fun j j0 j1 => by rw [rgp_lo σ hp (by omega), rgp_lo σ hp (by omega)])
  have e2 : sg (rgp σ p 5) = sg (rgp σ p 4) := sg_cong (fun j j0 j1 => by rw [rgp_lo σ hp (by omega), rgp_lo σ hp (by omega)])
  have e3 : rr (rgp σ p 5) 4 = cgp (rr (rgp σ p 4) 4) p := rgp_eq σ p (k := 4) (by omega) (by omega)
  have e4_0 : rr (rgp σ p 5) 0 = rr (rgp σ p 4) 0 := rgp_ne σ p (k := 4) (k' := 0) (by omega) (by omega) (by omega) (by omega) (by omega)
  have e4_1 : rr (rgp σ p 5) 1 = rr (rgp σ p 4) 1 := rgp_ne σ p (k := 4) (k' := 1) (by omega) (by omega) (by omega) (by omega) (by omega)
  have e4_2 : rr (rgp σ p 5) 2 = rr (rgp σ p 4) 2 := rgp_ne σ p (k := 4) (k' := 2) (by omega) (by omega) (by omega) (by omega) (by omega)
  have e4_3 : rr (rgp σ p 5) 3 = rr (rgp σ p 4) 3 := rgp_ne σ p (k := 4) (k' := 3) (by omega) (by omega) (by omega) (by omega) (by omega)
  have e4_5 : rr (rgp σ p 5) 5 = rr (rgp σ p 4) 5 := rgp_ne σ p (k := 4) (k' := 5) (by omega) (by omega) (by omega) (by omega) (by omega)
  unfold cSt
  rw [e1, e2, e3, e4_0, e4_1, e4_2, e4_3, e4_5]
  rfl
theorem fg4 {cI : ClassId} {h : Nat} {ad : Nat → Nat} {σ : Int → Int} {p : Int} (hp : 0 ≤ p) : Fr (cSt cI h ad (rgp σ p 4)) [(ad 4, .inl (cI, 16, .inl (ac (rr (rgp σ p 4) 4))))] [(ad 4, .inl (cI, 16, .inl (ac (cgp (rr (rgp σ p 4) 4) p))))] (cSt cI h ad (rgp σ p 5)) := fr_to (fr_set (i := 5) rfl) (eg4 cI h ad σ hp)
theorem ex4 (cI : ClassId) (h : Nat) (ad : Nat → Nat) (σ : Int → Int) {p : Int} (hp : 0 ≤ p) : (cSt cI h ad σ).set 5 (ad 4, .inl (cI, 16, .inl (ac (xcr (rr σ 4) p)))) = cSt cI h ad (xch σ p 4) := by
  have h1 := sR4 cI h ad σ p (σ (13 + 6 * (p + 1) + 4)) hp
  have h2 := sR4 cI h ad (up σ (13 + 6 * p + 4) (σ (13 + 6 * (p + 1) + 4))) (p + 1) (σ (13 + 6 * p + 4)) (by omega)
  rw [rr_eq] at h2
  unfold xch
  rw [← h2, ← h1, List.set_set]
  rfl
theorem fx4 {cI : ClassId} {h : Nat} {ad : Nat → Nat} {σ : Int → Int} {p : Int} (hp : 0 ≤ p) : Fr (cSt cI h ad σ) [(ad 4, .inl (cI, 16, .inl (ac (rr σ 4))))] [(ad 4, .inl (cI, 16, .inl (ac (xcr (rr σ 4) p))))] (cSt cI h ad (xch σ p 4)) := fr_to (fr_set (i := 5) rfl) (ex4 cI h ad σ hp)
theorem fs4 {cI : ClassId} {h : Nat} {ad : Nat → Nat} {σ : Int → Int} : Fr (cSt cI h ad σ) [(ad 4, .inl (cI, 16, .inl (ac (rr σ 4))))] [(ad 4, .inl (cI, 16, .inl (ac (rr σ 4))))] (cSt cI h ad σ) := fr_self (i := 5) rfl
theorem eg5 (cI : ClassId) (h : Nat) (ad : Nat → Nat) (σ : Int → Int) {p : Int} (hp : 0 ≤ p) : (cSt cI h ad (rgp σ p 5)).set 6 (ad 5, .inl (cI, 16, .inl (ac (cgp (rr (rgp σ p 5) 5) p)))) = cSt cI h ad (rgp σ p 6) := by
  have e1 : sFs ad (rgp σ p 6) = sFs ad (rgp σ p 5) := sFs_cong ad (fun j j0 j1 => by rw [rgp_lo σ hp (by omega), rgp_lo σ hp (by omega)])
  have e2 : sg (rgp σ p 6) = sg (rgp σ p 5) := sg_cong (fun j j0 j1 => by rw [rgp_lo σ hp (by omega), rgp_lo σ hp (by omega)])
  have e3 : rr (rgp σ p 6) 5 = cgp (rr (rgp σ p 5) 5) p := rgp_eq σ p (k := 5) (by omega) (by omega)
  have e4_0 : rr (rgp σ p 6) 0 = rr (rgp σ p 5) 0 := rgp_ne σ p (k := 5) (k' := 0) (by omega) (by omega) (by omega) (by omega) (by omega)
  have e4_1 : rr (rgp σ p 6) 1 = rr (rgp σ p 5) 1 := rgp_ne σ p (k := 5) (k' := 1) (by omega) (by omega) (by omega) (by omega) (by omega)
  have e4_2 : rr (rgp σ p 6) 2 = rr (rgp σ p 5) 2 := rgp_ne σ p (k := 5) (k' := 2) (by omega) (by omega) (by omega) (by omega) (by omega)
  have e4_3 : rr (rgp σ p 6) 3 = rr (rgp σ p 5) 3 := rgp_ne σ p (k := 5) (k' := 3) (by omega) (by omega) (by omega) (by omega) (by omega)
  have e4_4 : rr (rgp σ p 6) 4 = rr (rgp σ p 5) 4 := rgp_ne σ p (k := 5) (k' := 4) (by omega) (by omega) (by omega) (by omega) (by omega)
  unfold cSt
  rw [e1, e2, e3, e4_0, e4_1, e4_2, e4_3, e4_4]
  rfl
theorem fg5 {cI : ClassId} {h : Nat} {ad : Nat → Nat} {σ : Int → Int} {p : Int} (hp : 0 ≤ p) : Fr (cSt cI h ad (rgp σ p 5)) [(ad 5, .inl (cI, 16, .inl (ac (rr (rgp σ p 5) 5))))] [(ad 5, .inl (cI, 16, .inl (ac (cgp (rr (rgp σ p 5) 5) p))))] (cSt cI h ad (rgp σ p 6)) := fr_to (fr_set (i := 6) rfl) (eg5 cI h ad σ hp)
theorem ex5 (cI : ClassId) (h : Nat) (ad : Nat → Nat) (σ : Int → Int) {p : Int} (hp : 0 ≤ p) : (cSt cI h ad σ).set 6 (ad 5, .inl (cI, 16, .inl (ac (xcr (rr σ 5) p)))) = cSt cI h ad (xch σ p 5) := by
  have h1 := sR5 cI h ad σ p (σ (13 + 6 * (p + 1) + 5)) hp
  have h2 := sR5 cI h ad (up σ (13 + 6 * p + 5) (σ (13 + 6 * (p + 1) + 5))) (p + 1) (σ (13 + 6 * p + 5)) (by omega)
  rw [rr_eq] at h2
  unfold xch
  rw [← h2, ← h1, List.set_set]
  rfl
theorem fx5 {cI : ClassId} {h : Nat} {ad : Nat → Nat} {σ : Int → Int} {p : Int} (hp : 0 ≤ p) : Fr (cSt cI h ad σ) [(ad 5, .inl (cI, 16, .inl (ac (rr σ 5))))] [(ad 5, .inl (cI, 16, .inl (ac (xcr (rr σ 5) p))))] (cSt cI h ad (xch σ p 5)) := fr_to (fr_set (i := 6) rfl) (ex5 cI h ad σ hp)
theorem fs5 {cI : ClassId} {h : Nat} {ad : Nat → Nat} {σ : Int → Int} : Fr (cSt cI h ad σ) [(ad 5, .inl (cI, 16, .inl (ac (rr σ 5))))] [(ad 5, .inl (cI, 16, .inl (ac (rr σ 5))))] (cSt cI h ad σ) := fr_self (i := 6) rfl
/-- somebody goes: all behind come on, the last place stays as it was -/
def rmv (σ : Int → Int) (p : Int) : Int → Int := up (rgp σ p 6) 0 (rgp σ p 6 0 - 1)
theorem rmv_o : rmo rmv := fun st p h0 h1 h2 => by
  refine ⟨?_, fun k k0 k1 => ?_, fun k k0 k1 => ?_⟩
  · unfold rmv; rw [up_s, rgp_lo st h0 (by omega)]
  · unfold rmv; rw [up_n _ _ (by omega)]; unfold rgp; rw [if_neg (by omega)]
  · unfold rmv; rw [up_n _ _ (by omega)]; unfold rgp; rw [if_pos (by omega)]
theorem vP_l {D : va_G} {cl : List vw_C} {a b : va_W} {H : Heap} (h : va_P D cl (a ++ b) H) : va_P D cl a H := vP_iff.mpr (fun q hq => vP_iff.mp h q (List.mem_append_left _ hq))
theorem vP_r {D : va_G} {cl : List vw_C} {a b : va_W} {H : Heap} (h : va_P D cl (a ++ b) H) : va_P D cl b H := vP_iff.mpr (fun q hq => vP_iff.mp h q (List.mem_append_right _ hq))
/-- rows below m copied -/
def cpf (σ σ2 : Int → Int) (m : Int) : Int → Int := fun j => if 13 ≤ j ∧ j < 109 ∧ (j - 13) % 6 < m then σ2 j else σ j
theorem cpf_0 (σ σ2 : Int → Int) : cpf σ σ2 0 = σ := by funext j; unfold cpf; rw [if_neg (by omega)]
theorem cpf_lo (σ σ2 : Int → Int) {m j : Int} (h : j < 13) : cpf σ σ2 m j = σ j := by unfold cpf; rw [if_neg (by omega)]
theorem cpf_ne (σ σ2 : Int → Int) {k k' : Int} (h0 : 0 ≤ k) (h1 : k < 6) (h2 : 0 ≤ k') (h3 : k' < 6) (h : k ≠ k') : rr (cpf σ σ2 (k + 1)) k' = rr (cpf σ σ2 k) k' := by
  funext i; unfold rr cpf
  by_cases c : 13 ≤ 13 + 6 * i + k' ∧ 13 + 6 * i + k' < 109 ∧ (13 + 6 * i + k' - 13) % 6 < k
  · rw [if_pos (by omega), if_pos c]
  · rw [if_neg (by omega), if_neg c]
theorem cpf_eq (σ σ2 : Int → Int) {k : Int} (h0 : 0 ≤ k) (h1 : k < 6) : rr (cpf σ σ2 (k + 1)) k = fun i => if 0 ≤ i ∧ i < 0 + 16 then rr σ2 k (0 + (i - 0)) else rr (cpf σ σ2 k) k i := by
  funext i
  show (if 13 ≤ 13 + 6 * i + k ∧ 13 + 6 * i + k < 109 ∧ (13 + 6 * i + k - 13) % 6 < k + 1 then σ2 (13 + 6 * i + k) else σ (13 + 6 * i + k)) = if 0 ≤ i ∧ i < 0 + 16 then σ2 (13 + 6 * (0 + (i - 0)) + k) else (if 13 ≤ 13 + 6 * i + k ∧ 13 + 6 * i + k < 109 ∧ (13 + 6 * i + k - 13) % 6 < k then σ2 (13 + 6 * i + k) else σ (13 + 6 * i + k))
  by_cases c : 0 ≤ i ∧ i < 0 + 16
  · rw [if_pos (by omega), if_pos c]; congr 1; omega
  · rw [if_neg (by omega), if_neg c, if_neg (by omega)]
theorem ec0 (cI : ClassId) (h : Nat) (ad : Nat → Nat) (σ σ2 : Int → Int) : (cSt cI h ad (cpf σ σ2 0)).set 1 (ad 0, .inl (cI, 16, .inl (ac (fun i => if 0 ≤ i ∧ i < 0 + 16 then rr σ2 0 (0 + (i - 0)) else rr (cpf σ σ2 0) 0 i)))) = cSt cI h ad (cpf σ σ2 1) := by
  have e1 : sFs ad (cpf σ σ2 1) = sFs ad (cpf σ σ2 0) := sFs_cong ad (fun j j0 j1 => by rw [cpf_lo σ σ2 (by omega), cpf_lo σ σ2 (by omega)])
  have e2 : sg (cpf σ σ2 1) = sg (cpf σ σ2 0) := sg_cong (fun j j0 j1 => by rw [cpf_lo σ σ2 (by omega), cpf_lo σ σ2 (by omega)])
  have e3 := cpf_eq σ σ2 (k := 0) (by omega) (by omega)
  rw [show (0 : Int) + 1 = 1 from rfl] at e3
  have e4_1 : rr (cpf σ σ2 1) 1 = rr (cpf σ σ2 0) 1 := cpf_ne σ σ2 (k := 0) (k' := 1) (by omega) (by omega) (by omega) (by omega) (by omega)
  have e4_2 : rr (cpf σ σ2 1) 2 = rr (cpf σ σ2 0) 2 := cpf_ne σ σ2 (k := 0) (k' := 2) (by omega) (by omega) (by omega) (by omega) (by omega)
  have e4_3 : rr (cpf σ σ2 1) 3 = rr (cpf σ σ2 0) 3 := cpf_ne σ σ2 (k := 0) (k' := 3) (by omega) (by omega) (by omega) (by omega) (by omega)
  have e4_4 : rr (cpf σ σ2 1) 4 = rr (cpf σ σ2 0) 4 := cpf_ne σ σ2 (k := 0) (k' := 4) (by omega) (by omega) (by omega) (by omega) (by omega)
  have e4_5 : rr (cpf σ σ2 1) 5 = rr (cpf σ σ2 0) 5 := cpf_ne σ σ2 (k := 0) (k' := 5) (by omega) (by omega) (by omega) (by omega) (by omega)
  rw [← e3]
  unfold cSt
  rw [e1, e2, e4_1, e4_2, e4_3, e4_4, e4_5]
  rfl
theorem ec1 (cI : ClassId) (h : Nat) (ad : Nat → Nat) (σ σ2 : Int → Int) : (cSt cI h ad (cpf σ σ2 1)).set 2 (ad 1, .inl (cI, 16, .inl (ac (fun i => if 0 ≤ i ∧ i < 0 + 16 then rr σ2 1 (0 + (i - 0)) else rr (cpf σ σ2 1) 1 i)))) = cSt cI h ad (cpf σ σ2 2) := by
  have e1 : sFs ad (cpf σ σ2 2) = sFs ad (cpf σ σ2 1) := sFs_cong ad (fun j j0 j1 => by rw [cpf_lo σ σ2 (by omega), cpf_lo σ σ2 (by omega)])
  have e2 : sg (cpf σ σ2 2) = sg (cpf σ σ2 1) := sg_cong (fun j j0 j1 => by rw [cpf_lo σ σ2 (by omega), cpf_lo σ σ2 (by omega)])
  have e3 := cpf_eq σ σ2 (k := 1) (by omega) (by omega)
  rw [show (1 : Int) + 1 = 2 from rfl] at e3
  have e4_0 : rr (cpf σ σ2 2) 0 = rr (cpf σ σ2 1) 0 := cpf_ne σ σ2 (k := 1) (k' := 0) (by omega) (by omega) (by omega) (by omega) (by omega)
  have e4_2 : rr (cpf σ σ2 2) 2 = rr (cpf σ σ2 1) 2 := cpf_ne σ σ2 (k := 1) (k' := 2) (by omega) (by omega) (by omega) (by omega) (by omega)
  have e4_3 : rr (cpf σ σ2 2) 3 = rr (cpf σ σ2 1) 3 := cpf_ne σ σ2 (k := 1) (k' := 3) (by omega) (by omega) (by omega) (by omega) (by omega)
  have e4_4 : rr (cpf σ σ2 2) 4 = rr (cpf σ σ2 1) 4 := cpf_ne σ σ2 (k := 1) (k' := 4) (by omega) (by omega) (by omega) (by omega) (by omega)
  have e4_5 : rr (cpf σ σ2 2) 5 = rr (cpf σ σ2 1) 5 := cpf_ne σ σ2 (k := 1) (k' := 5) (by omega) (by omega) (by omega) (by omega) (by omega)
  rw [← e3]
  unfold cSt
  rw [e1, e2, e4_0, e4_2, e4_3, e4_4, e4_5]
  rfl
theorem ec2 (cI : ClassId) (h : Nat) (ad : Nat → Nat) (σ σ2 : Int → Int) : (cSt cI h ad (cpf σ σ2 2)).set 3 (ad 2, .inl (cI, 16, .inl (ac (fun i => if 0 ≤ i ∧ i < 0 + 16 then rr σ2 2 (0 + (i - 0)) else rr (cpf σ σ2 2) 2 i)))) = cSt cI h ad (cpf σ σ2 3) := by
  have e1 : sFs ad (cpf σ σ2 3) = sFs ad (cpf σ σ2 2) := sFs_cong ad (fun j j0 j1 => by rw [cpf_lo σ σ2 (by omega), cpf_lo σ σ2 (by omega)])
  have e2 : sg (cpf σ σ2 3) = sg (cpf σ σ2 2) := sg_cong (fun j j0 j1 => by rw [cpf_lo σ σ2 (by omega), cpf_lo σ σ2 (by omega)])
  have e3 := cpf_eq σ σ2 (k := 2) (by omega) (by omega)
  rw [show (2 : Int) + 1 = 3 from rfl] at e3
  have e4_0 : rr (cpf σ σ2 3) 0 = rr (cpf σ σ2 2) 0 := cpf_ne σ σ2 (k := 2) (k' := 0) (by omega) (by omega) (by omega) (by omega) (by omega)
  have e4_1 : rr (cpf σ σ2 3) 1 = rr (cpf σ σ2 2) 1 := cpf_ne σ σ2 (k := 2) (k' := 1) (by omega) (by omega) (by omega) (by omega) (by omega)
  have e4_3 : rr (cpf σ σ2 3) 3 = rr (cpf σ σ2 2) 3 := cpf_ne σ σ2 (k := 2) (k' := 3) (by omega) (by omega) (by omega) (by omega) (by omega)
  have e4_4 : rr (cpf σ σ2 3) 4 = rr (cpf σ σ2 2) 4 := cpf_ne σ σ2 (k := 2) (k' := 4) (by omega) (by omega) (by omega) (by omega) (by omega)
  have e4_5 : rr (cpf σ σ2 3) 5 = rr (cpf σ σ2 2) 5 := cpf_ne σ σ2 (k := 2) (k' := 5) (by omega) (by omega) (by omega) (by omega) (by omega)
  rw [← e3]
  unfold cSt
  rw [e1, e2, e4_0, e4_1, e4_3, e4_4, e4_5]
  rfl
theorem ec3 (cI : ClassId) (h : Nat) (ad : Nat → Nat) (σ σ2 : Int → Int) : (cSt cI h ad (cpf σ σ2 3)).set 4 (ad 3, .inl (cI, 16, .inl (ac (fun i => if 0 ≤ i ∧ i < 0 + 16 then rr σ2 3 (0 + (i - 0)) else rr (cpf σ σ2 3) 3 i)))) = cSt cI h ad (cpf σ σ2 4) := by
  have e1 : sFs ad (cpf σ σ2 4) = sFs ad (cpf σ σ2 3) := sFs_cong ad (fun j j0 j1 => by rw [cpf_lo σ σ2 (by omega), cpf_lo σ σ2 (by omega)])
  have e2 : sg (cpf σ σ2 4) = sg (cpf σ σ2 3) := sg_cong (fun j j0 j1 => by rw [cpf_lo σ σ2 (by omega), cpf_lo σ σ2 (by omega)])
  have e3 := cpf_eq σ σ2 (k := 3) (by omega) (by omega)
  rw [show (3 : Int) + 1 = 4 from rfl] at e3
  have e4_0 : rr (cpf σ σ2 4) 0 = rr (cpf σ σ2 3) 0 := cpf_ne σ σ2 (k := 3) (k' := 0) (by omega) (by omega) (by omega) (by omega) (by omega)
  have e4_1 : rr (cpf σ σ2 4) 1 = rr (cpf σ σ2 3) 1 := cpf_ne σ σ2 (k := 3) (k' := 1) (by omega) (by omega) (by omega) (by omega) (by omega)
  have e4_2 : rr (cpf σ σ2 4) 2 = rr (cpf σ σ2 3) 2 := cpf_ne σ σ2 (k := 3) (k' := 2) (by omega) (by omega) (by omega) (by omega) (by omega)
  have e4_4 : rr (cpf σ σ2 4) 4 = rr (cpf σ σ2 3) 4 := cpf_ne σ σ2 (k := 3) (k' := 4) (by omega) (by omega) (by omega) (by omega) (by omega)
  have e4_5 : rr (cpf σ σ2 4) 5 = rr (cpf σ σ2 3) 5 := cpf_ne σ σ2 (k := 3) (k' := 5) (by omega) (by omega) (by omega) (by omega) (by omega)
  rw [← e3]
  unfold cSt
  rw [e1, e2, e4_0, e4_1, e4_2, e4_4, e4_5]
  rfl
theorem ec4 (cI : ClassId) (h : Nat) (ad : Nat → Nat) (σ σ2 : Int → Int) : (cSt cI h ad (cpf σ σ2 4)).set 5 (ad 4, .inl (cI, 16, .inl (ac (fun i => if 0 ≤ i ∧ i < 0 + 16 then rr σ2 4 (0 + (i - 0)) else rr (cpf σ σ2 4) 4 i)))) = cSt cI h ad (cpf σ σ2 5) := by
  have e1 : sFs ad (cpf σ σ2 5) = sFs ad (cpf σ σ2 4) := sFs_cong ad (fun j j0 j1 => by rw [cpf_lo σ σ2 (by omega), cpf_lo σ σ2 (by omega)])
  have e2 : sg (cpf σ σ2 5) = sg (cpf σ σ2 4) := sg_cong (fun j j0 j1 => by rw [cpf_lo σ σ2 (by omega), cpf_lo σ σ2 (by omega)])
  have e3 := cpf_eq σ σ2 (k := 4) (by omega) (by omega)
  rw [show (4 : Int) + 1 = 5 from rfl] at e3
  have e4_0 : rr (cpf σ σ2 5) 0 = rr (cpf σ σ2 4) 0 := cpf_ne σ σ2 (k := 4) (k' := 0) (by omega) (by omega) (by omega) (by omega) (by omega)
  have e4_1 : rr (cpf σ σ2 5) 1 = rr (cpf σ σ2 4) 1 := cpf_ne σ σ2 (k := 4) (k' := 1) (by omega) (by omega) (by omega) (by omega) (by omega)
  have e4_2 : rr (cpf σ σ2 5) 2 = rr (cpf σ σ2 4) 2 := cpf_ne σ σ2 (k := 4) (k' := 2) (by omega) (by omega) (by omega) (by omega) (by omega)
  have e4_3 : rr (cpf σ σ2 5) 3 = rr (cpf σ σ2 4) 3 := cpf_ne σ σ2 (k := 4) (k' := 3) (by omega) (by omega) (by omega) (by omega) (by omega)
  have e4_5 : rr (cpf σ σ2 5) 5 = rr (cpf σ σ2 4) 5 := cpf_ne σ σ2 (k := 4) (k' := 5) (by omega) (by omega) (by omega) (by omega) (by omega)
  rw [← e3]
  unfold cSt
  rw [e1, e2, e4_0, e4_1, e4_2, e4_3, e4_5]
  rfl
theorem ec5 (cI : ClassId) (h : Nat) (ad : Nat → Nat) (σ σ2 : Int → Int) : (cSt cI h ad (cpf σ σ2 5)).set 6 (ad 5, .inl (cI, 16, .inl (ac (fun i => if 0 ≤ i ∧ i < 0 + 16 then rr σ2 5 (0 + (i - 0)) else rr (cpf σ σ2 5) 5 i)))) = cSt cI h ad (cpf σ σ2 6) := by
  have e1 : sFs ad (cpf σ σ2 6) = sFs ad (cpf σ σ2 5) := sFs_cong ad (fun j j0 j1 => by rw [cpf_lo σ σ2 (by omega), cpf_lo σ σ2 (by omega)])
  have e2 : sg (cpf σ σ2 6) = sg (cpf σ σ2 5) := sg_cong (fun j j0 j1 => by rw [cpf_lo σ σ2 (by omega), cpf_lo σ σ2 (by omega)])
  have e3 := cpf_eq σ σ2 (k := 5) (by omega) (by omega)
  rw [show (5 : Int) + 1 = 6 from rfl] at e3
  have e4_0 : rr (cpf σ σ2 6) 0 = rr (cpf σ σ2 5) 0 := cpf_ne σ σ2 (k := 5) (k' := 0) (by omega) (by omega) (by omega) (by omega) (by omega)
  have e4_1 : rr (cpf σ σ2 6) 1 = rr (cpf σ σ2 5) 1 := cpf_ne σ σ2 (k := 5) (k' := 1) (by omega) (by omega) (by omega) (by omega) (by omega)
  have e4_2 : rr (cpf σ σ2 6) 2 = rr (cpf σ σ2 5) 2 := cpf_ne σ σ2 (k := 5) (k' := 2) (by omega) (by omega) (by omega) (by omega) (by omega)
  have e4_3 : rr (cpf σ σ2 6) 3 = rr (cpf σ σ2 5) 3 := cpf_ne σ σ2 (k := 5) (k' := 3) (by omega) (by omega) (by omega) (by omega) (by omega)
  have e4_4 : rr (cpf σ σ2 6) 4 = rr (cpf σ σ2 5) 4 := cpf_ne σ σ2 (k := 5) (k' := 4) (by omega) (by omega) (by omega) (by omega) (by omega)
  rw [← e3]
  unfold cSt
  rw [e1, e2, e4_0, e4_1, e4_2, e4_3, e4_4]
  rfl
def cps (σ σ2 : Int → Int) : Int → Int := fun j => if 10 ≤ j ∧ j < 13 then σ2 j else σ j
theorem ec6 (cI : ClassId) (h : Nat) (ad : Nat → Nat) (σ σ2 : Int → Int) : (cSt cI h ad σ).set 7 (ad 6, .inl (cI, 3, .inl (ac (fun i => if 0 ≤ i ∧ i < 0 + 3 then sg σ2 (0 + (i - 0)) else sg σ i)))) = cSt cI h ad (cps σ σ2) := by
  have e1 : sFs ad (cps σ σ2) = sFs ad σ := sFs_cong ad (fun j j0 j1 => by unfold cps; rw [if_neg (by omega)])
  have e2 : sg (cps σ σ2) = fun i => if 0 ≤ i ∧ i < 0 + 3 then sg σ2 (0 + (i - 0)) else sg σ i := by
    funext i
    show (if 0 ≤ i ∧ i < 3 then (if 10 ≤ 10 + i ∧ 10 + i < 13 then σ2 (10 + i) else σ (10 + i)) else 0) = if 0 ≤ i ∧ i < 0 + 3 then (if 0 ≤ 0 + (i - 0) ∧ 0 + (i - 0) < 3 then σ2 (10 + (0 + (i - 0))) else 0) else (if 0 ≤ i ∧ i < 3 then σ (10 + i) else 0)
    by_cases c : 0 ≤ i ∧ i < 3
    · rw [if_pos c, if_pos (by omega), if_pos (by omega), if_pos (by omega)]; congr 1; omega
    · rw [if_neg c, if_neg (by omega), if_neg c]
  have er : ∀ k : Int, 0 ≤ k → ac (rr (cps σ σ2) k) = ac (rr σ k) := fun k hk => by
    funext j; unfold ac rr cps; rw [if_neg (by omega)]
  unfold cSt
  rw [e1, e2, er 0 (by omega), er 1 (by omega), er 2 (by omega), er 3 (by omega), er 4 (by omega), er 5 (by omega)]
  rfl
section QS
variable {p : Program} {l : Launch} {e : Env} {R : Room} {s : State} {m : MethodId} {args : Array Value} {below : List Frame} {meth : Method} {c : Code} {H : Heap} {locs : List Loc} {cells slots : Nat} {Q : State → Prop}
variable {cc : ByteArray} {nL : Nat} {own : String} {Ts : List Cond} {D : va_G} {tys : List (ClassId × FieldType)} {A : Nat → Prop} {ret : Option FieldType} {pc : Nat} {ls : Array Slot} {rest : List Value} {ws ws' b : va_W}
variable {cI cC cS : ClassId} {h : Nat} {ad : Nat → Nat} {σ : Int → Int}
/-- System.arraycopy over rows of ints -/
theorem q_cpy {index a0 a n0 n1 : Nat} {f g : Int → Int} {sp dp n : Int} {lv : List (Nat × Value)} (C : Cx p s m args meth c cc nL own Ts D (tz cI cC cS) A ret) (w : Wd D A s ws H locs) (hl : lv_has ls nL lv) (hlink : Cond.methodLink own index arraycopyName ∈ Ts) (hnat : Cond.native arraycopyName ∈ Ts) (hstat : Cond.static arraycopyName ∈ Ts) (hini : Cond.initialized "java/lang/System" ∈ Ts)
    (q0 q1 : Nat) (ha0 : ws[q0]? = some (a0, .inl (cI, n0, .inl (ac f)))) (ha1 : ws[q1]? = some (a, .inl (cI, n1, .inl (ac g)))) (h1 : 0 ≤ sp ∧ sp ≤ 1000) (h2 : 0 ≤ dp ∧ dp ≤ 1000) (h3 : 0 ≤ n ∧ n ≤ 1000) (h4 : sp + n ≤ n0) (h5 : dp + n ≤ n1)
    (hframes : 1 ≤ R.frames) (hlocals : (rest.map fun v => v.category).sum + (nativeFrameWords "java/lang/System" "arraycopy" 5 + 11) ≤ R.locals) (hdg : decode cc pc = .ok (.invokestatic index, 3))
    (hw : ws.set q1 (a, .inl (cI, n1, .inl (ac (fun i => if dp ≤ i ∧ i < dp + n then f (sp + (i - dp)) else g i)))) = ws')
    (kk : ∀ (H1 : Heap) (locs1 : List Loc), Wd D A s ws' H1 locs1 → W p l e R s m args below meth c H1 locs1 cells slots Q (F0 m (pc + 3) ls rest)) : W p l e R s m args below meth c H locs cells slots Q (F0 m pc ls (.int (jj n) :: .int (jj dp) :: .ref a :: .int (jj sp) :: .ref a0 :: rest)) := by
  have e1 := jj_cl (i := sp) h1.1 (by omega)
  have e2 := jj_cl (i := dp) h2.1 (by omega)
  have e3 := jj_cl (i := n) h3.1 (by omega)
  have nn : ∀ x : Int, 0 ≤ x ∧ x ≤ 1000 → ¬ jj x < 0 := fun x hx hh => by
    have := (jj_lt (a := x) (b := 0) (by omega) (by omega) (by omega) (by omega)).mp hh
    omega
  refine va_copyi C.1 C.2.1 (C.2.2.1.trans hl.1.symm) C.ho (C.ts _ hlink) (C.ts _ hnat) (C.ts _ hstat) (C.ts _ hini) C.K w.1 w.2.1 w.2.2 q0 q1 0 0 ha0 ha1 rfl rfl rfl (nn sp h1) (nn dp h2) (nn n h3) (by omega) (by omega) (fun _ _ => rfl) hframes hlocals hdg (fun H1 locs1 hP hD hS => ?_)
  rw [ac_cpy f g h1 h2 h3] at hP hD
  subst hw
  exact kk H1 locs1 ⟨hP, hD, hS⟩
theorem q_putS2 {index : Nat} {v : Int} (C : Cx p s m args meth c cc nL own Ts D tys A ret) (w : Wd D A s (cSt cI h ad σ ++ b) H locs) (hin : ∀ w ∈ wsX10, w ∈ Ts) (i : Nat) (hi : i < 10) (hlink : Cond.fieldLink own index (TX1 (7 + i)).1 (TX1 (7 + i)).2.1 (TX1 (7 + i)).2.2.1 ∈ Ts) (hfin : (TX1 (7 + i)).2.2.2 = false) (hd : parseFieldDescriptor (TX1 (7 + i)).2.2.1 = some .int) (hdg : decode cc pc = .ok (.putfield index, 3))
    (kk : ∀ (H1 : Heap) (locs1 : List Loc), Wd D A s (cSt cI h ad (up σ (i : Int) v) ++ b) H1 locs1 → W p l e R s m args below meth c H1 locs1 cells slots Q (F0 m (pc + 3) ls rest)) : W p l e R s m args below meth c H locs cells slots Q (F0 m pc ls (.int (jj v) :: .ref h :: rest)) :=
  q_put (Cn := RX1) (T := TX1) (N := 17) (ci := 1) (fs := sFs ad σ) C w hin tyX1 tyX1_ok nmX1 0 rfl rfl (7 + i) (by omega) hlink hfin hd rfl rfl (by show 7 + i < 17; omega) hdg (congrArg (fun z => z ++ b) (sPut cI h ad σ i v hi)) kk
end QS
theorem cg_eq (a : Nat) (cI : ClassId) (f : Int → Int) (p : Int) : [((a, .inl (cI, 16, .inl (ac (fun i => if p ≤ i ∧ i < p + (15 - p) then f (p + 1 + (i - p)) else f i)))) : Nat × va_E)] = [(a, .inl (cI, 16, .inl (ac (cgp f p))))] := by
  have e : (fun i : Int => if p ≤ i ∧ i < p + (15 - p) then f (p + 1 + (i - p)) else f i) = cgp f p := by
    funext i; unfold cgp
    by_cases c : p ≤ i ∧ i < 15
    · rw [if_pos (by omega), if_pos c]; congr 1; omega
    · rw [if_neg (by omega), if_neg c]
  rw [e]
theorem vD_map {A : Nat → Prop} {ws ws' : va_W} (h : ws.map (·.1) = ws'.map (·.1)) (hD : va_D A ws) : va_D A ws' := by
  rw [vD_iff] at hD ⊢
  have h1 : (ws.map (·.1)).Pairwise (fun a b => a ≠ b) := List.pairwise_map.mpr hD.1
  rw [h] at h1
  refine ⟨List.pairwise_map.mp h1, fun q hq => ?_⟩
  have h2 : q.1 ∈ ws'.map (·.1) := List.mem_map.mpr ⟨q, hq, rfl⟩
  rw [← h] at h2
  obtain ⟨q', hq', e⟩ := List.mem_map.mp h2
  rw [← e]; exact hD.2 q' hq'
theorem wd_scong {D : va_G} {A : Nat → Prop} {s : State} {cI : ClassId} {h : Nat} {ad : Nat → Nat} {σ σ' : Int → Int} {b : va_W} {H : Heap} {locs : List Loc} (e : ∀ k : Int, 0 ≤ k → k < 109 → σ k = σ' k) (w : Wd D A s (cSt cI h ad σ ++ b) H locs) : Wd D A s (cSt cI h ad σ' ++ b) H locs :=
  ⟨(cSt_cong e (vP_l w.1)).app (vP_r w.1), vD_map (by rw [List.map_append, List.map_append]; rfl) w.2.1, w.2.2⟩
/-! what the class does to a State's numbers -/
def comA (σ : Int → Int) (pa co wi : Int) : Int → Int :=
  let a2 := up σ (13 + 6 * σ 0 + 0) (σ 1)
  let a3 := up a2 (13 + 6 * σ 0 + 1) 0
  let a4 := up a3 (13 + 6 * σ 0 + 2) pa
  let a5 := up a4 (13 + 6 * σ 0 + 3) co
  let a6 := up a5 (13 + 6 * σ 0 + 4) wi
  let a7 := up a6 (13 + 6 * σ 0 + 5) 0
  let a8 := up a7 0 (a7 0 + 1)
  up a8 1 (a8 1 + 1)
def comW (σ : Int → Int) (pa co wi : Int) : Int → Int := if 0 ≤ comu σ pa co wi then comA σ pa co wi else σ
def levW (σ : Int → Int) (p : Int) : Int → Int := if isp σ p then up (rmv σ p) 2 (rmv σ p 2 + 1) else σ
def soA (σ : Int → Int) : Int → Int := rms rmv (σ 0) σ (σ 0)
def soW (σ : Int → Int) : Int → Int := up (soA σ) 3 (soA σ 3 + (σ 0 - soA σ 0))
def g8 (σ : Int → Int) (d side : Int) : Int → Int := up (gw σ d side (σ 0)) 8 (gw σ d side (σ 0) 8 + 1)
def guA (σ : Int → Int) (d side : Int) : Int := if gst d side then (if σ 0 = 0 then -5 else g8 σ d side 0 - soA (g8 σ d side) 0) else -2
def guW (σ : Int → Int) (d side : Int) : Int → Int := if gst d side ∧ σ 0 ≠ 0 then soW (g8 σ d side) else σ
def pvW (σ : Int → Int) (mi : Int) : Int → Int := if (1 ≤ mi ∧ mi ≤ 99) ∧ σ 9 + mi ≤ 99999 then dr (up σ 9 (σ 9 + mi)) mi (σ 0) else σ
def sa1 (σ : Int → Int) : Int → Int := up σ 5 (σ 5 + cpd σ)
def sa2 (σ : Int → Int) : Int → Int := up (sa1 σ) 6 (sa1 σ 6 + (srv (sa1 σ) * sa1 σ 12 - cpd σ))
def sa3 (σ : Int → Int) : Int → Int := up (sa2 σ) 4 (sa2 σ 4 + srv σ)
def rmk (σ : Int → Int) (n j : Int) : Int → Int := it (fun j st => rmv st (n - 1 - j)) σ j
theorem rmk_0 (σ : Int → Int) (n : Int) : rmk σ n 0 = σ := rfl
theorem rmk_s (σ : Int → Int) (n : Int) {j : Int} (h : 0 ≤ j) : rmk σ n (j + 1) = rmv (rmk σ n j) (n - 1 - j) := it_s _ _ h
def sevW (σ : Int → Int) : Int → Int := if σ 0 = 0 then σ else rmk (sa3 σ) (srv σ) (srv σ)
theorem rmv_0 (σ : Int → Int) (p : Int) (h0 : 0 ≤ p) : rmv σ p 0 = σ 0 - 1 := by unfold rmv; rw [up_s, rgp_lo σ h0 (by omega)]
theorem rmk_z (σ : Int → Int) {n : Int} (j : Int) (h0 : 0 ≤ j) (h1 : j ≤ n) : rmk σ n j 0 = σ 0 - j :=
  it_ind (fun j st => rmv st (n - 1 - j)) σ (fun j st => st 0 = σ 0 - j) n (by omega) (fun i st i0 i1 hx => by
    show rmv st (n - 1 - i) 0 = σ 0 - (i + 1)
    rw [rmv_0 st _ (by omega)]; omega) j h0 h1
/-! covered, as the class looks for it -/
theorem rch_pos {σ : Int → Int} {p n : Int} (hn : 0 ≤ n) : 0 < rch σ p n ↔ ∃ q : Int, 0 ≤ q ∧ q < n ∧ hit σ q p := by
  have key := it_ind (fun q a => a + bI (hit σ q p)) 0 (fun i a => 0 ≤ a ∧ (0 < a ↔ ∃ q : Int, 0 ≤ q ∧ q < i ∧ hit σ q p)) n ⟨Int.le_refl 0, ⟨fun h => absurd h (by omega), fun ⟨q, q0, q1, _⟩ => absurd q1 (by omega)⟩⟩ (fun i a i0 i1 hx => by
    show 0 ≤ a + bI (hit σ i p) ∧ (0 < a + bI (hit σ i p) ↔ ∃ q : Int, 0 ≤ q ∧ q < i + 1 ∧ hit σ q p)
    have h1 := bI_lo (hit σ i p)
    refine ⟨by omega, fun h => ?_, fun ⟨q, q0, q1, q2⟩ => ?_⟩
    · by_cases c : hit σ i p
      · exact ⟨i, i0, by omega, c⟩
      · rw [bI_f c] at h
        obtain ⟨q, q0, q1, q2⟩ := hx.2.mp (by omega)
        exact ⟨q, q0, by omega, q2⟩
    · by_cases e : q = i
      · subst e; rw [bI_t q2]; omega
      · have := hx.2.mpr ⟨q, q0, by omega, q2⟩
        omega) n hn (Int.le_refl n)
  exact key.2
abbrev cvh (σ : Int → Int) (p side q : Int) : Prop := 0 < σ (13 + 6 * q + 4) ∧ lst σ q ≤ (if side = 2 then p + 1 else p) ∧ (if side = 1 then p - 1 else p) ≤ grt σ q
theorem cov_y {σ : Int → Int} (hW : Wi σ) {p side q : Int} (q0 : 0 ≤ q) (q1 : q < σ 0) (h : cvh σ p side q) : cov σ p side := by
  have h1 : lst σ q ≤ q := by have := hW.2.2 q q0 q1; unfold lst; omega
  have h2 : q ≤ grt σ q := by unfold grt; omega
  obtain ⟨a1, a2, a3⟩ := h
  by_cases s1 : side = 1
  · rw [if_neg (by omega)] at a2; rw [if_pos s1] at a3
    by_cases c : lst σ q ≤ p - 1
    · exact Or.inr (Or.inl ⟨s1, (rch_pos hW.1).mpr ⟨q, q0, q1, a1, c, a3⟩⟩)
    · exact Or.inl ((rch_pos hW.1).mpr ⟨q, q0, q1, a1, a2, by omega⟩)
  · rw [if_neg s1] at a3
    by_cases s2 : side = 2
    · rw [if_pos s2] at a2
      by_cases c : lst σ q ≤ p
      · exact Or.inl ((rch_pos hW.1).mpr ⟨q, q0, q1, a1, c, a3⟩)
      · exact Or.inr (Or.inr ⟨s2, (rch_pos hW.1).mpr ⟨q, q0, q1, a1, a2, by omega⟩⟩)
    · rw [if_neg s2] at a2
      exact Or.inl ((rch_pos hW.1).mpr ⟨q, q0, q1, a1, a2, a3⟩)
theorem cov_no {σ : Int → Int} (hW : Wi σ) {p side : Int} (h : ∀ q : Int, 0 ≤ q → q < σ 0 → ¬ cvh σ p side q) : ¬ cov σ p side := by
  rintro (c | ⟨s1, c⟩ | ⟨s2, c⟩)
  · obtain ⟨q, q0, q1, a1, a2, a3⟩ := (rch_pos hW.1).mp c
    exact h q q0 q1 ⟨a1, by split <;> omega, by split <;> omega⟩
  · obtain ⟨q, q0, q1, a1, a2, a3⟩ := (rch_pos hW.1).mp c
    exact h q q0 q1 ⟨a1, by split <;> omega, by split <;> omega⟩
  · obtain ⟨q, q0, q1, a1, a2, a3⟩ := (rch_pos hW.1).mp c
    exact h q q0 q1 ⟨a1, by split <;> omega, by split <;> omega⟩
theorem g8_0 (σ : Int → Int) (d side : Int) : g8 σ d side 0 = σ 0 := by unfold g8; rw [up_n _ _ (by omega), gw_n σ d side _ (by omega)]
theorem g8_P {σ : Int → Int} (h : Iv σ) {d side : Int} (hd : 1 ≤ d) (hd2 : d ≤ 99) : ∀ x : Int, 0 ≤ x → x < g8 σ d side 0 → Pv (g8 σ d side) x := by
  intro x x0 x1
  rw [g8_0] at x1
  exact Pv_of (gw_P h hd hd2 x x0 x1) (fun k k0 k1 => up_n _ _ (by omega))
theorem slj_at {x : Int} (h0 : 0 ≤ x) (h1 : x ≤ 2) : slj (jj x).toNatClampNeg = slo x := by
  have := jj_cl h0 (by omega)
  unfold slj slo
  by_cases e : x = 1
  · rw [if_pos (by omega), if_pos e]
  · rw [if_neg (by omega), if_neg e]
theorem shj_at {x : Int} (h0 : 0 ≤ x) (h1 : x ≤ 2) : shj (jj x).toNatClampNeg = shi x := by
  have := jj_cl h0 (by omega)
  unfold shj shi
  by_cases e : x = 0
  · rw [if_pos (by omega), if_pos e]
  · rw [if_neg (by omega), if_neg e]
    by_cases e1 : x = 1
    · rw [if_pos (by omega), if_pos e1]
    · rw [if_neg (by omega), if_neg e1]
theorem stg_b {σ : Int → Int} (b10 : 0 ≤ σ 10 ∧ σ 10 ≤ 50) (bv : 1 ≤ σ 11 ∧ σ 11 ≤ 4) (bf : 0 ≤ σ 12 ∧ σ 12 ≤ 99) {x : Int} (h0 : 0 ≤ x) (h1 : x ≤ 2) : 0 ≤ σ (10 + x) ∧ σ (10 + x) ≤ 99 := by
  have h3 : x = 0 ∨ x = 1 ∨ x = 2 := by omega
  rcases h3 with rfl | rfl | rfl
  · exact ⟨b10.1, Int.le_trans b10.2 (by omega)⟩
  · exact ⟨Int.le_trans (by omega) bv.1, Int.le_trans bv.2 (by omega)⟩
  · exact bf
end
section
/-! The weather's object: its text, and the rows of things that were read. -/
def tFs (ad : Nat → Nat) (q : Int → Int) : List Value := [.ref (ad 0), .int (jj (q 1)), .ref (ad 2), .ref (ad 3), .ref (ad 4), .int (jj (q 5)), .int (jj (q 6))]
def tW (cI cC : ClassId) (h : Nat) (ad : Nat → Nat) (τ kd am sd q : Int → Int) : va_W := [(h, .inr (2, tFs ad q)), (ad 0, .inl (cC, 60, .inl (ac τ))), (ad 2, .inl (cC, 30, .inl (ac kd))), (ad 3, .inl (cI, 30, .inl (ac am))), (ad 4, .inl (cI, 30, .inl (ac sd)))]
theorem tP1 (cI cC : ClassId) (h : Nat) (ad : Nat → Nat) (τ kd am sd q : Int → Int) (v : Int) : (tW cI cC h ad τ kd am sd q).set 0 (h, .inr (2, (tFs ad q).set 1 (.int (jj v)))) = tW cI cC h ad τ kd am sd (up q 1 v) := by simp [tW, tFs, up]
theorem tP5 (cI cC : ClassId) (h : Nat) (ad : Nat → Nat) (τ kd am sd q : Int → Int) (v : Int) : (tW cI cC h ad τ kd am sd q).set 0 (h, .inr (2, (tFs ad q).set 5 (.int (jj v)))) = tW cI cC h ad τ kd am sd (up q 5 v) := by simp [tW, tFs, up]
theorem tP6 (cI cC : ClassId) (h : Nat) (ad : Nat → Nat) (τ kd am sd q : Int → Int) (v : Int) : (tW cI cC h ad τ kd am sd q).set 0 (h, .inr (2, (tFs ad q).set 6 (.int (jj v)))) = tW cI cC h ad τ kd am sd (up q 6 v) := by simp [tW, tFs, up]
theorem nar_c {v : Int} (h0 : 0 ≤ v) (h1 : v < 65536) : vp_nar .char (jj v) = jj v := by
  have e : jj v = ((jj v).toUInt32 % 65536).toInt32 := by rw [jj_char]; congr 1; omega
  rw [e, pk_vc]
section QT
variable {p : Program} {l : Launch} {e : Env} {R : Room} {s : State} {m : MethodId} {args : Array Value} {below : List Frame} {meth : Method} {c : Code} {H : Heap} {locs : List Loc} {cells slots : Nat} {Q : State → Prop}
variable {cc : ByteArray} {nL : Nat} {own : String} {Ts : List Cond} {D : va_G} {tys : List (ClassId × FieldType)} {A : Nat → Prop} {ret : Option FieldType} {pc : Nat} {ls : Array Slot} {rest : List Value} {ws ws' b : va_W}
variable {cI cC cS : ClassId} {h : Nat} {ad : Nat → Nat} {τ kd am sd q : Int → Int}
theorem q_getT {index : Nat} {v : Value} (C : Cx p s m args meth c cc nL own Ts D tys A ret) (hP : va_P D vwCl (tW cI cC h ad τ kd am sd q) H) (hin : ∀ w ∈ wsX20, w ∈ Ts) (k : Nat) (hk : k < 7) (hlink : Cond.fieldLink own index (TX2 k).1 (TX2 k).2.1 (TX2 k).2.2.1 ∈ Ts) (hv : (tFs ad q)[k]? = some v) (hdg : decode cc pc = .ok (.getfield index, 3))
    (kk : W p l e R s m args below meth c H locs cells slots Q (F0 m (pc + 3) ls (v :: rest))) : W p l e R s m args below meth c H locs cells slots Q (F0 m pc ls (.ref h :: rest)) :=
  q_get (Cn := RX2) (T := TX2) (N := 7) (ci := 2) C hP hin 0 rfl rfl k hk hlink hv hdg kk
theorem q_putT {index : Nat} {v : Int} (C : Cx p s m args meth c cc nL own Ts D tys A ret) (w : Wd D A s (tW cI cC h ad τ kd am sd q) H locs) (hin : ∀ w ∈ wsX20, w ∈ Ts) (k : Nat) (hk : k < 7) (hlink : Cond.fieldLink own index (TX2 k).1 (TX2 k).2.1 (TX2 k).2.2.1 ∈ Ts) (hfin : (TX2 k).2.2.2 = false) (hd : parseFieldDescriptor (TX2 k).2.2.1 = some .int) (hdg : decode cc pc = .ok (.putfield index, 3))
    (hw : (tW cI cC h ad τ kd am sd q).set 0 (h, .inr (2, (tFs ad q).set k (.int (jj v)))) = ws')
    (kk : ∀ (H1 : Heap) (locs1 : List Loc), Wd D A s ws' H1 locs1 → W p l e R s m args below meth c H1 locs1 cells slots Q (F0 m (pc + 3) ls rest)) : W p l e R s m args below meth c H locs cells slots Q (F0 m pc ls (.int (jj v) :: .ref h :: rest)) :=
  q_put (Cn := RX2) (T := TX2) (N := 7) (ci := 2) (fs := tFs ad q) C w hin tyX2 tyX2_ok nmX2 0 rfl rfl k hk hlink hfin hd rfl rfl (by show k < 7; exact hk) hdg hw kk
theorem q_cast {a n : Nat} {cA : ClassId} {f : Int → Int} {i x : Int} (C : Cx p s m args meth c cc nL own Ts D tys A ret) (w : Wd D A s ws H locs) (q0 t0 : Nat) (ha : ws[q0]? = some (a, .inl (cA, n, .inl (ac f)))) (ht : tys[t0]? = some (cA, .char)) (hi : 0 ≤ i ∧ i < n ∧ i ≤ 2147483647) (hx : 0 ≤ x ∧ x < 65536) (hdg : decode cc pc = .ok (.castore, 1))
    (hw : ws.set q0 (a, .inl (cA, n, .inl (ac (up f i x)))) = ws')
    (kk : ∀ (H1 : Heap) (locs1 : List Loc), Wd D A s ws' H1 locs1 → W p l e R s m args below meth c H1 locs1 cells slots Q (F0 m (pc + 1) ls rest)) : W p l e R s m args below meth c H locs cells slots Q (F0 m pc ls (.int (jj x) :: .int (jj i) :: .ref a :: rest)) :=
  va_cast C.1 C.2.1 C.K w.1 w.2.1 w.2.2 q0 t0 ha ht (jj_in hi.1 hi.2.1 hi.2.2) hdg (fun H1 locs1 hP hD hS => by rw [nar_c hx.1 hx.2, ac_st f x hi.1 hi.2.2] at hP hD; subst hw; exact kk H1 locs1 ⟨hP, hD, hS⟩)
end QT
def chA (τ : Int → Int) (le P : Int) : Int := if P < le then τ P else -1
def dgA (τ : Int → Int) (le P : Int) : Int := if 48 ≤ chA τ le P ∧ chA τ le P ≤ 57 then chA τ le P - 48 else -1
def rsA (τ : Int → Int) (le P : Int) : Int := if chA τ le P = 60 then 1 else if chA τ le P = 62 then 2 else 0
theorem chA_ltr (τ : Int → Int) (le P : Int) : (chA τ le P = ltr τ le P ∧ P < le) ∨ (chA τ le P = -1 ∧ ltr τ le P = 0 ∧ le ≤ P) := by
  unfold chA ltr
  by_cases c : P < le
  · rw [if_pos c, if_pos c]; exact Or.inl ⟨rfl, c⟩
  · rw [if_neg c, if_neg c]; exact Or.inr ⟨rfl, rfl, by omega⟩
theorem chA_b {τ : Int → Int} {le P : Int} (hP : 0 ≤ P) (h : ∀ x : Int, 0 ≤ x → x < le → 0 ≤ τ x ∧ τ x ≤ 65535) : -1 ≤ chA τ le P ∧ chA τ le P ≤ 65535 := by
  unfold chA; split
  · have := h P hP (by omega); omega
  · omega
theorem chA_in {τ : Int → Int} {le P : Int} (h : P < le) : chA τ le P = τ P := if_pos h
theorem up_at {q : Int → Int} {k v : Int} (h : q k = v) : up q k v = q := by rw [← h]; exact up_same q k
/-- the rows of the first n things -/
def pkd (τ : Int → Int) (le : Int) (F : (Int → Int) → Int → Int → Int) (kd : Int → Int) (n : Int) : Int → Int := fun k => if 0 ≤ k ∧ k < n then F τ le (itp τ le k).1 else kd k
theorem pkd_0 (τ : Int → Int) (le : Int) (F : (Int → Int) → Int → Int → Int) (kd : Int → Int) : pkd τ le F kd 0 = kd := by funext k; unfold pkd; rw [if_neg (by omega)]
theorem pkd_s {τ : Int → Int} {le n P : Int} (F : (Int → Int) → Int → Int → Int) (kd : Int → Int) (hn : 0 ≤ n) (he : (P, n) = itp τ le n) : up (pkd τ le F kd n) n (F τ le P) = pkd τ le F kd (n + 1) := by
  have e1 : P = (itp τ le n).1 := by rw [← he]
  funext k; unfold up pkd
  by_cases e : k = n
  · rw [if_pos e, if_pos (by omega), e, ← e1]
  · rw [if_neg e]
    by_cases c : 0 ≤ k ∧ k < n
    · rw [if_pos c, if_pos (by omega)]
    · rw [if_neg c, if_neg (by omega)]
theorem pkd_at {τ : Int → Int} {le n k : Int} (F : (Int → Int) → Int → Int → Int) (kd : Int → Int) (h0 : 0 ≤ k) (h1 : k < n) : pkd τ le F kd n k = F τ le (itp τ le k).1 := if_pos ⟨h0, h1⟩
theorem up65 (q : Int → Int) (a b : Int) : up (up q 5 b) 6 a = up (up q 6 a) 5 b := by
  funext k; simp only [up]; (repeat' split) <;> first | rfl | omega
theorem up6565 (q : Int → Int) (a b x y : Int) : up (up (up (up q 6 a) 5 b) 6 x) 5 y = up (up q 6 x) 5 y := by
  funext k; simp only [up]; (repeat' split) <;> first | rfl | omega
theorem up656 (q : Int → Int) (a b x : Int) : up (up (up q 6 a) 5 b) 6 x = up (up q 6 x) 5 b := by
  funext k; simp only [up]; (repeat' split) <;> first | rfl | omega
end
section
/-! The history's and the queue's own objects. -/
def upN (η : Nat → Int → Int) (d : Nat) (v : Int → Int) : Nat → Int → Int := fun i => if i = d then v else η i
def h5 (cI : ClassId) (hs : Nat → Nat) (ha : Nat → Nat → Nat) (η : Nat → Int → Int) : va_W := cSt cI (hs 0) (ha 0) (η 0) ++ (cSt cI (hs 1) (ha 1) (η 1) ++ (cSt cI (hs 2) (ha 2) (η 2) ++ (cSt cI (hs 3) (ha 3) (η 3) ++ cSt cI (hs 4) (ha 4) (η 4))))
/-- the history: its object, its row (which may stand apart from the states' order), its states -/
def hV (cI cS : ClassId) (h har : Nat) (rw_ : Nat → Nat) (hs : Nat → Nat) (ha : Nat → Nat → Nat) (η : Nat → Int → Int) (dp : Int) : va_W := (h, .inr (0, [.ref har, .int (jj dp)])) :: (har, .inl (cS, 5, .inr (.inr (.inr (.inr (fun i => some (rw_ i))))))) :: h5 cI hs ha η
def hW (cI cS : ClassId) (h har : Nat) (hs : Nat → Nat) (ha : Nat → Nat → Nat) (η : Nat → Int → Int) (dp : Int) : va_W := hV cI cS h har hs hs ha η dp
def rotN {α : Type} (f : Nat → α) : Nat → α := fun i => if i < 4 then f (i + 1) else if i = 4 then f 0 else f i
theorem pm {f : Nat → va_W} {is js : List Nat} (h : is.Perm js) : (is.flatMap f).Perm (js.flatMap f) := h.flatMap_right f
def uFs (hn hsn hh hw : Nat) (u : Int → Int) : List Value := [.ref hn, .ref hsn, .ref hh, .ref hw, .int (jj (u 4)), .int (jj (u 5)), .int (jj (u 6))]
def uW (cI cC cS : ClassId) (h hn : Nat) (adn : Nat → Nat) (hsn : Nat) (ads : Nat → Nat) (hh har hw : Nat) (adw : Nat → Nat) (σ ς : Int → Int) (hs : Nat → Nat) (ha : Nat → Nat → Nat) (η : Nat → Int → Int) (dp : Int) (τ kd am sd q u : Int → Int) : va_W :=
  (h, .inr (3, uFs hn hsn hh hw u)) :: (cSt cI hn adn σ ++ (cSt cI hsn ads ς ++ (hW cI cS hh har hs ha η dp ++ tW cI cC hw adw τ kd am sd q)))
theorem fr_of {ws wc w1 ws' v : va_W} (h1 : ws.Perm (wc ++ v)) (h2 : (w1 ++ v).Perm ws') : Fr ws wc w1 ws' := ⟨v, h1, h2⟩
/-- five blocks in another order -/
theorem b5 (a b x d e : va_W) {is : List Nat} (h : [0, 1, 2, 3, 4].Perm is) : (a ++ (b ++ (x ++ (d ++ e)))).Perm (is.flatMap (fun i => match i with | 0 => a | 1 => b | 2 => x | 3 => d | _ => e)) := by
  have := pm (f := fun i => match i with | 0 => a | 1 => b | 2 => x | 3 => d | _ => e) h
  have e1 : [0, 1, 2, 3, 4].flatMap (fun i => match i with | 0 => a | 1 => b | 2 => x | 3 => d | _ => e) = a ++ (b ++ (x ++ (d ++ e))) := by simp [List.flatMap_cons]
  rwa [e1] at this
section FR
variable {cI cC cS : ClassId} {h hn : Nat} {adn : Nat → Nat} {hsn : Nat} {ads : Nat → Nat} {hh har hw : Nat} {adw : Nat → Nat} {σ ς : Int → Int} {hs : Nat → Nat} {ha : Nat → Nat → Nat} {η : Nat → Int → Int} {dp : Int} {τ kd am sd q u : Int → Int}
theorem fu_n {σ' : Int → Int} : Fr (uW cI cC cS h hn adn hsn ads hh har hw adw σ ς hs ha η dp τ kd am sd q u) (cSt cI hn adn σ) (cSt cI hn adn σ') (uW cI cC cS h hn adn hsn ads hh har hw adw σ' ς hs ha η dp τ kd am sd q u) :=
  fr_mid (u := [(h, .inr (3, uFs hn hsn hh hw u))]) (wc := cSt cI hn adn σ) (w1 := cSt cI hn adn σ') (v := cSt cI hsn ads ς ++ (hW cI cS hh har hs ha η dp ++ tW cI cC hw adw τ kd am sd q))
theorem fu_t {τ' kd' am' sd' q' : Int → Int} : Fr (uW cI cC cS h hn adn hsn ads hh har hw adw σ ς hs ha η dp τ kd am sd q u) (tW cI cC hw adw τ kd am sd q) (tW cI cC hw adw τ' kd' am' sd' q') (uW cI cC cS h hn adn hsn ads hh har hw adw σ ς hs ha η dp τ' kd' am' sd' q' u) := by
  have h1 := b5 [(h, .inr (3, uFs hn hsn hh hw u))] (cSt cI hn adn σ) (cSt cI hsn ads ς) (hW cI cS hh har hs ha η dp) (tW cI cC hw adw τ kd am sd q) (is := [4, 0, 1, 2, 3]) (by decide)
  have h2 := b5 [(h, .inr (3, uFs hn hsn hh hw u))] (cSt cI hn adn σ) (cSt cI hsn ads ς) (hW cI cS hh har hs ha η dp) (tW cI cC hw adw τ' kd' am' sd' q') (is := [4, 0, 1, 2, 3]) (by decide)
  exact fr_of h1 h2.symm
theorem fu_h {hs' : Nat → Nat} {ha' : Nat → Nat → Nat} {η' : Nat → Int → Int} {dp' : Int} : Fr (uW cI cC cS h hn adn hsn ads hh har hw adw σ ς hs ha η dp τ kd am sd q u) (hW cI cS hh har hs ha η dp) (hW cI cS hh har hs' ha' η' dp') (uW cI cC cS h hn adn hsn ads hh har hw adw σ ς hs' ha' η' dp' τ kd am sd q u) := by
  have h1 := b5 [(h, .inr (3, uFs hn hsn hh hw u))] (cSt cI hn adn σ) (cSt cI hsn ads ς) (hW cI cS hh har hs ha η dp) (tW cI cC hw adw τ kd am sd q) (is := [3, 0, 1, 2, 4]) (by decide)
  have h2 := b5 [(h, .inr (3, uFs hn hsn hh hw u))] (cSt cI hn adn σ) (cSt cI hsn ads ς) (hW cI cS hh har hs' ha' η' dp') (tW cI cC hw adw τ kd am sd q) (is := [3, 0, 1, 2, 4]) (by decide)
  exact fr_of h1 h2.symm
/-- the history and the state that is drafted -/
theorem fu_d {η' : Nat → Int → Int} : Fr (uW cI cC cS h hn adn hsn ads hh har hw adw σ ς hs ha η dp τ kd am sd q u) (hW cI cS hh har hs ha η dp ++ cSt cI hn adn σ) (hW cI cS hh har hs ha η' dp ++ cSt cI hn adn σ) (uW cI cC cS h hn adn hsn ads hh har hw adw σ ς hs ha η' dp τ kd am sd q u) := by
  have h1 := b5 [(h, .inr (3, uFs hn hsn hh hw u))] (cSt cI hn adn σ) (cSt cI hsn ads ς) (hW cI cS hh har hs ha η dp) (tW cI cC hw adw τ kd am sd q) (is := [3, 1, 0, 2, 4]) (by decide)
  have h2 := b5 [(h, .inr (3, uFs hn hsn hh hw u))] (cSt cI hn adn σ) (cSt cI hsn ads ς) (hW cI cS hh har hs ha η' dp) (tW cI cC hw adw τ kd am sd q) (is := [3, 1, 0, 2, 4]) (by decide)
  refine fr_of (v := [0, 2, 4].flatMap (fun i => match i with | 0 => [(h, .inr (3, uFs hn hsn hh hw u))] | 1 => cSt cI hn adn σ | 2 => cSt cI hsn ads ς | 3 => hW cI cS hh har hs ha η dp | _ => tW cI cC hw adw τ kd am sd q)) ?_ ?_
  · rw [List.append_assoc]; exact h1
  · rw [List.append_assoc]; exact h2.symm
/-- the snapshot out of the state -/
theorem fu_k {ς' : Int → Int} : Fr (uW cI cC cS h hn adn hsn ads hh har hw adw σ ς hs ha η dp τ kd am sd q u) (cSt cI hsn ads ς ++ cSt cI hn adn σ) (cSt cI hsn ads ς' ++ cSt cI hn adn σ) (uW cI cC cS h hn adn hsn ads hh har hw adw σ ς' hs ha η dp τ kd am sd q u) := by
  have h1 := b5 [(h, .inr (3, uFs hn hsn hh hw u))] (cSt cI hn adn σ) (cSt cI hsn ads ς) (hW cI cS hh har hs ha η dp) (tW cI cC hw adw τ kd am sd q) (is := [2, 1, 0, 3, 4]) (by decide)
  have h2 := b5 [(h, .inr (3, uFs hn hsn hh hw u))] (cSt cI hn adn σ) (cSt cI hsn ads ς') (hW cI cS hh har hs ha η dp) (tW cI cC hw adw τ kd am sd q) (is := [2, 1, 0, 3, 4]) (by decide)
  refine fr_of (v := [0, 3, 4].flatMap (fun i => match i with | 0 => [(h, .inr (3, uFs hn hsn hh hw u))] | 1 => cSt cI hn adn σ | 2 => cSt cI hsn ads ς | 3 => hW cI cS hh har hs ha η dp | _ => tW cI cC hw adw τ kd am sd q)) ?_ ?_
  · rw [List.append_assoc]; exact h1
  · rw [List.append_assoc]; exact h2.symm
/-- the state out of the snapshot -/
theorem fu_r {σ' : Int → Int} : Fr (uW cI cC cS h hn adn hsn ads hh har hw adw σ ς hs ha η dp τ kd am sd q u) (cSt cI hn adn σ ++ cSt cI hsn ads ς) (cSt cI hn adn σ' ++ cSt cI hsn ads ς) (uW cI cC cS h hn adn hsn ads hh har hw adw σ' ς hs ha η dp τ kd am sd q u) := by
  have h1 := b5 [(h, .inr (3, uFs hn hsn hh hw u))] (cSt cI hn adn σ) (cSt cI hsn ads ς) (hW cI cS hh har hs ha η dp) (tW cI cC hw adw τ kd am sd q) (is := [1, 2, 0, 3, 4]) (by decide)
  have h2 := b5 [(h, .inr (3, uFs hn hsn hh hw u))] (cSt cI hn adn σ') (cSt cI hsn ads ς) (hW cI cS hh har hs ha η dp) (tW cI cC hw adw τ kd am sd q) (is := [1, 2, 0, 3, 4]) (by decide)
  refine fr_of (v := [0, 3, 4].flatMap (fun i => match i with | 0 => [(h, .inr (3, uFs hn hsn hh hw u))] | 1 => cSt cI hn adn σ | 2 => cSt cI hsn ads ς | 3 => hW cI cS hh har hs ha η dp | _ => tW cI cC hw adw τ kd am sd q)) ?_ ?_
  · rw [List.append_assoc]; exact h1
  · rw [List.append_assoc]; exact h2.symm
/-- five states and the one that stands at d -/
theorem h5_at (d : Nat) (hd : d ≤ 4) : ∃ a b : va_W, (∀ v : Int → Int, h5 cI hs ha (upN η d v) = a ++ (cSt cI (hs d) (ha d) v ++ b)) ∧ h5 cI hs ha η = a ++ (cSt cI (hs d) (ha d) (η d) ++ b) := by
  match d, hd with
  | 0, _ => exact ⟨[], cSt cI (hs 1) (ha 1) (η 1) ++ (cSt cI (hs 2) (ha 2) (η 2) ++ (cSt cI (hs 3) (ha 3) (η 3) ++ cSt cI (hs 4) (ha 4) (η 4))), fun v => rfl, rfl⟩
  | 1, _ => exact ⟨cSt cI (hs 0) (ha 0) (η 0), cSt cI (hs 2) (ha 2) (η 2) ++ (cSt cI (hs 3) (ha 3) (η 3) ++ cSt cI (hs 4) (ha 4) (η 4)), fun v => rfl, rfl⟩
  | 2, _ => exact ⟨cSt cI (hs 0) (ha 0) (η 0) ++ cSt cI (hs 1) (ha 1) (η 1), cSt cI (hs 3) (ha 3) (η 3) ++ cSt cI (hs 4) (ha 4) (η 4), fun v => rfl, rfl⟩
  | 3, _ => exact ⟨cSt cI (hs 0) (ha 0) (η 0) ++ (cSt cI (hs 1) (ha 1) (η 1) ++ cSt cI (hs 2) (ha 2) (η 2)), cSt cI (hs 4) (ha 4) (η 4), fun v => rfl, rfl⟩
  | 4, _ => exact ⟨cSt cI (hs 0) (ha 0) (η 0) ++ (cSt cI (hs 1) (ha 1) (η 1) ++ (cSt cI (hs 2) (ha 2) (η 2) ++ cSt cI (hs 3) (ha 3) (η 3))), [], fun v => rfl, rfl⟩
/-- the drafted state out of another one -/
theorem fh_c {b : va_W} {v : Int → Int} {d : Nat} (hd : d ≤ 4) : Fr (hW cI cS h har hs ha η dp ++ b) (cSt cI (hs d) (ha d) (η d) ++ b) (cSt cI (hs d) (ha d) v ++ b) (hW cI cS h har hs ha (upN η d v) dp ++ b) := by
  obtain ⟨x, y, e1, e2⟩ := h5_at (cI := cI) (hs := hs) (ha := ha) (η := η) d hd
  have g1 := b5 [(h, .inr (0, [.ref har, .int (jj dp)])), (har, .inl (cS, 5, .inr (.inr (.inr (.inr (fun i => some (hs i)))))))] x (cSt cI (hs d) (ha d) (η d)) y b (is := [2, 4, 0, 1, 3]) (by decide)
  have g2 := b5 [(h, .inr (0, [.ref har, .int (jj dp)])), (har, .inl (cS, 5, .inr (.inr (.inr (.inr (fun i => some (hs i)))))))] x (cSt cI (hs d) (ha d) v) y b (is := [2, 4, 0, 1, 3]) (by decide)
  unfold hW hV
  rw [e1 v, e2]
  refine fr_of (v := [0, 1, 3].flatMap (fun i => match i with | 0 => [(h, .inr (0, [.ref har, .int (jj dp)])), (har, .inl (cS, 5, .inr (.inr (.inr (.inr (fun i => some (hs i)))))))] | 1 => x | 2 => cSt cI (hs d) (ha d) (η d) | 3 => y | _ => b)) ?_ ?_
  · rw [List.append_assoc]
    refine List.Perm.trans ?_ g1
    simp only [List.append_assoc, List.cons_append, List.nil_append]
    exact List.Perm.refl _
  · rw [List.append_assoc]
    refine List.Perm.trans g2.symm ?_
    simp only [List.append_assoc, List.cons_append, List.nil_append]
    exact List.Perm.refl _
/-- the state out of the one that the history holds at d -/
theorem fu_u {σ' : Int → Int} {d : Nat} (hd : d ≤ 4) : Fr (uW cI cC cS h hn adn hsn ads hh har hw adw σ ς hs ha η dp τ kd am sd q u) (cSt cI hn adn σ ++ cSt cI (hs d) (ha d) (η d)) (cSt cI hn adn σ' ++ cSt cI (hs d) (ha d) (η d)) (uW cI cC cS h hn adn hsn ads hh har hw adw σ' ς hs ha η dp τ kd am sd q u) := by
  obtain ⟨x, y, -, e2⟩ := h5_at (cI := cI) (hs := hs) (ha := ha) (η := η) d hd
  have g1 := b5 [(h, .inr (3, uFs hn hsn hh hw u))] (cSt cI hn adn σ) (cSt cI hsn ads ς ++ ((hh, .inr (0, [.ref har, .int (jj dp)])) :: (har, .inl (cS, 5, .inr (.inr (.inr (.inr (fun i => some (hs i))))))) :: x)) (cSt cI (hs d) (ha d) (η d)) (y ++ tW cI cC hw adw τ kd am sd q) (is := [1, 3, 0, 2, 4]) (by decide)
  have g2 := b5 [(h, .inr (3, uFs hn hsn hh hw u))] (cSt cI hn adn σ') (cSt cI hsn ads ς ++ ((hh, .inr (0, [.ref har, .int (jj dp)])) :: (har, .inl (cS, 5, .inr (.inr (.inr (.inr (fun i => some (hs i))))))) :: x)) (cSt cI (hs d) (ha d) (η d)) (y ++ tW cI cC hw adw τ kd am sd q) (is := [1, 3, 0, 2, 4]) (by decide)
  unfold uW hW hV
  rw [e2]
  refine fr_of (v := [0, 2, 4].flatMap (fun i => match i with | 0 => [(h, .inr (3, uFs hn hsn hh hw u))] | 1 => cSt cI hn adn σ | 2 => cSt cI hsn ads ς ++ ((hh, .inr (0, [.ref har, .int (jj dp)])) :: (har, .inl (cS, 5, .inr (.inr (.inr (.inr (fun i => some (hs i))))))) :: x) | 3 => cSt cI (hs d) (ha d) (η d) | _ => y ++ tW cI cC hw adw τ kd am sd q)) ?_ ?_
  · rw [List.append_assoc]
    refine List.Perm.trans ?_ g1
    simp only [List.append_assoc, List.cons_append, List.nil_append]
    exact List.Perm.refl _
  · rw [List.append_assoc]
    refine List.Perm.trans g2.symm ?_
    simp only [List.append_assoc, List.cons_append, List.nil_append]
    exact List.Perm.refl _
theorem vU_n {D : va_G} {H : Heap} (w : va_P D vwCl (uW cI cC cS h hn adn hsn ads hh har hw adw σ ς hs ha η dp τ kd am sd q u) H) : va_P D vwCl (cSt cI hn adn σ) H := fr_P (fu_n (σ' := σ)) w
theorem vU_t {D : va_G} {H : Heap} (w : va_P D vwCl (uW cI cC cS h hn adn hsn ads hh har hw adw σ ς hs ha η dp τ kd am sd q u) H) : va_P D vwCl (tW cI cC hw adw τ kd am sd q) H := fr_P (fu_t (τ' := τ) (kd' := kd) (am' := am) (sd' := sd) (q' := q)) w
theorem vU_h {D : va_G} {H : Heap} (w : va_P D vwCl (uW cI cC cS h hn adn hsn ads hh har hw adw σ ς hs ha η dp τ kd am sd q u) H) : va_P D vwCl (hW cI cS hh har hs ha η dp) H := fr_P (fu_h (hs' := hs) (ha' := ha) (η' := η) (dp' := dp)) w
theorem uP (k : Nat) (v : Int) (hk : k = 4 ∨ k = 5 ∨ k = 6) : (uW cI cC cS h hn adn hsn ads hh har hw adw σ ς hs ha η dp τ kd am sd q u).set 0 (h, .inr (3, (uFs hn hsn hh hw u).set k (.int (jj v)))) = uW cI cC cS h hn adn hsn ads hh har hw adw σ ς hs ha η dp τ kd am sd q (up u (k : Int) v) := by
  rcases hk with rfl | rfl | rfl <;> simp [uW, uFs, up]
/-- the rows go round -/
theorem h5_rot : (h5 cI hs ha η).Perm (h5 cI (rotN hs) (rotN ha) (rotN η)) := by
  have := b5 (cSt cI (hs 0) (ha 0) (η 0)) (cSt cI (hs 1) (ha 1) (η 1)) (cSt cI (hs 2) (ha 2) (η 2)) (cSt cI (hs 3) (ha 3) (η 3)) (cSt cI (hs 4) (ha 4) (η 4)) (is := [1, 2, 3, 4, 0]) (by decide)
  refine List.Perm.trans this ?_
  simp only [List.flatMap_cons, List.flatMap_nil, List.append_nil]
  exact List.Perm.refl _
theorem hV_rot : (hV cI cS h har (rotN hs) hs ha η dp).Perm (hW cI cS h har (rotN hs) (rotN ha) (rotN η) dp) := (h5_rot.cons _).cons _
end FR
section QU
variable {p : Program} {l : Launch} {e : Env} {R : Room} {s : State} {m : MethodId} {args : Array Value} {below : List Frame} {meth : Method} {c : Code} {H : Heap} {locs : List Loc} {cells slots : Nat} {Q : State → Prop}
variable {cc : ByteArray} {nL : Nat} {own : String} {Ts : List Cond} {D : va_G} {tys : List (ClassId × FieldType)} {A : Nat → Prop} {ret : Option FieldType} {pc : Nat} {ls : Array Slot} {rest : List Value} {ws ws' b : va_W}
variable {cI cC cS : ClassId} {h hn : Nat} {adn : Nat → Nat} {hsn : Nat} {ads : Nat → Nat} {hh har hw : Nat} {adw : Nat → Nat} {σ ς : Int → Int} {hs : Nat → Nat} {ha : Nat → Nat → Nat} {η : Nat → Int → Int} {dp : Int} {τ kd am sd q u : Int → Int}
theorem q_getU {index : Nat} {v : Value} (C : Cx p s m args meth c cc nL own Ts D tys A ret) (hP : va_P D vwCl (uW cI cC cS h hn adn hsn ads hh har hw adw σ ς hs ha η dp τ kd am sd q u) H) (hin : ∀ w ∈ wsX30, w ∈ Ts) (k : Nat) (hk : k < 7) (hlink : Cond.fieldLink own index (TX3 k).1 (TX3 k).2.1 (TX3 k).2.2.1 ∈ Ts) (hv : (uFs hn hsn hh hw u)[k]? = some v) (hdg : decode cc pc = .ok (.getfield index, 3))
    (kk : W p l e R s m args below meth c H locs cells slots Q (F0 m (pc + 3) ls (v :: rest))) : W p l e R s m args below meth c H locs cells slots Q (F0 m pc ls (.ref h :: rest)) :=
  q_get (Cn := RX3) (T := TX3) (N := 7) (ci := 3) C hP hin 0 rfl rfl k hk hlink hv hdg kk
theorem q_putU {index : Nat} {v : Int} {ty : FieldType} (C : Cx p s m args meth c cc nL own Ts D tys A ret) (w : Wd D A s (uW cI cC cS h hn adn hsn ads hh har hw adw σ ς hs ha η dp τ kd am sd q u) H locs) (hin : ∀ w ∈ wsX30, w ∈ Ts) (k : Nat) (hk : k = 4 ∨ k = 5 ∨ k = 6) (hlink : Cond.fieldLink own index (TX3 k).1 (TX3 k).2.1 (TX3 k).2.2.1 ∈ Ts) (hfin : (TX3 k).2.2.2 = false) (hd : parseFieldDescriptor (TX3 k).2.2.1 = some ty) (hn' : narrow ty (.int (jj v)) = .int (jj v)) (hfit : fits ty (.int (jj v)) = true) (hdg : decode cc pc = .ok (.putfield index, 3))
    (kk : ∀ (H1 : Heap) (locs1 : List Loc), Wd D A s (uW cI cC cS h hn adn hsn ads hh har hw adw σ ς hs ha η dp τ kd am sd q (up u (k : Int) v)) H1 locs1 → W p l e R s m args below meth c H1 locs1 cells slots Q (F0 m (pc + 3) ls rest)) : W p l e R s m args below meth c H locs cells slots Q (F0 m pc ls (.int (jj v) :: .ref h :: rest)) :=
  q_put (Cn := RX3) (T := TX3) (N := 7) (ci := 3) (fs := uFs hn hsn hh hw u) C w hin tyX3 tyX3_ok nmX3 0 rfl rfl k (by omega) hlink hfin hd hn' hfit (by show k < 7; omega) hdg (uP k v hk) kk
theorem q_getH {index : Nat} {v : Value} (C : Cx p s m args meth c cc nL own Ts D tys A ret) (hP : va_P D vwCl (hV cI cS h har adn hs ha η dp) H) (hin : ∀ w ∈ wsX00, w ∈ Ts) (k : Nat) (hk : k < 2) (hlink : Cond.fieldLink own index (TX0 k).1 (TX0 k).2.1 (TX0 k).2.2.1 ∈ Ts) (hv : ([.ref har, .int (jj dp)] : List Value)[k]? = some v) (hdg : decode cc pc = .ok (.getfield index, 3))
    (kk : W p l e R s m args below meth c H locs cells slots Q (F0 m (pc + 3) ls (v :: rest))) : W p l e R s m args below meth c H locs cells slots Q (F0 m pc ls (.ref h :: rest)) :=
  q_get (Cn := RX0) (T := TX0) (N := 2) (ci := 0) C hP hin 0 rfl rfl k hk hlink hv hdg kk
theorem q_putH {index : Nat} {v : Int} (C : Cx p s m args meth c cc nL own Ts D tys A ret) (w : Wd D A s (hW cI cS h har hs ha η dp) H locs) (hin : ∀ w ∈ wsX00, w ∈ Ts) (hlink : Cond.fieldLink own index (TX0 1).1 (TX0 1).2.1 (TX0 1).2.2.1 ∈ Ts) (hdg : decode cc pc = .ok (.putfield index, 3))
    (kk : ∀ (H1 : Heap) (locs1 : List Loc), Wd D A s (hW cI cS h har hs ha η v) H1 locs1 → W p l e R s m args below meth c H1 locs1 cells slots Q (F0 m (pc + 3) ls rest)) : W p l e R s m args below meth c H locs cells slots Q (F0 m pc ls (.int (jj v) :: .ref h :: rest)) :=
  q_put (Cn := RX0) (T := TX0) (N := 2) (ci := 0) (ty := .int) (fs := [.ref har, .int (jj dp)]) C w hin tyX0 tyX0_ok nmX0 0 rfl rfl 1 (by omega) hlink rfl rfl rfl rfl (by show 1 < 2; omega) hdg rfl kk
/-- a state of the history by its place -/
theorem q_Hld {i : Int} (C : Cx p s m args meth c cc nL own Ts D (tz cI cC cS) A ret) (hP : va_P D vwCl (hV cI cS h har adn hs ha η dp) H) (hi : 0 ≤ i ∧ i < 5) (hdg : decode cc pc = .ok (.aaload, 1))
    (kk : W p l e R s m args below meth c H locs cells slots Q (F0 m (pc + 1) ls (.ref (adn i.toNat) :: rest))) : W p l e R s m args below meth c H locs cells slots Q (F0 m pc ls (.int (jj i) :: .ref har :: rest)) := by
  have e1 := jj_cl (i := i) hi.1 (by omega)
  have e2 : (jj i).toNatClampNeg = i.toNat := by omega
  refine va_aldq (C := RX1) (f := fun i => some (adn i)) C.1 C.2.1 C.K hP 1 2 rfl rfl (jj_in hi.1 (by omega) (by omega)) hdg ?_
  rw [e2]; exact kk
def upA (f : Nat → Nat) (k v : Nat) : Nat → Nat := fun i => if i = k then v else f i
theorem q_Hst {i : Int} {v qk : Nat} {vs : List Value} (C : Cx p s m args meth c cc nL own Ts D (tz cI cC cS) A ret) (w : Wd D A s (hV cI cS h har adn hs ha η dp) H locs) (hi : 0 ≤ i ∧ i < 5) (hv : (hV cI cS h har adn hs ha η dp)[qk]? = some (v, .inr (1, vs))) (hdg : decode cc pc = .ok (.aastore, 1))
    (kk : ∀ (H1 : Heap) (locs1 : List Loc), Wd D A s (hV cI cS h har (upA adn i.toNat v) hs ha η dp) H1 locs1 → W p l e R s m args below meth c H1 locs1 cells slots Q (F0 m (pc + 1) ls rest)) : W p l e R s m args below meth c H locs cells slots Q (F0 m pc ls (.ref v :: .int (jj i) :: .ref har :: rest)) := by
  have e1 := jj_cl (i := i) hi.1 (by omega)
  have e2 : (jj i).toNatClampNeg = i.toNat := by omega
  refine va_astq (r := (RX1, TX1, 17)) (ci := 1) (f := fun i => some (adn i)) C.1 C.2.1 C.K w.1 w.2.1 w.2.2 1 2 qk rfl rfl hv rfl (jj_in hi.1 (by omega) (by omega)) hdg (fun H1 locs1 hP hD hS => ?_)
  have e3 : va_up (fun i => some (adn i)) (jj i).toNatClampNeg (some v) = fun j => some (upA adn i.toNat v j) := by
    funext j; unfold va_up upA
    rw [e2]
    by_cases c : j = i.toNat
    · rw [if_pos c, if_pos c]
    · rw [if_neg c, if_neg c]
  rw [e3] at hP hD
  exact kk H1 locs1 ⟨hP, hD, hS⟩
end QU
def kh {α : Type} (dp : Int) (f : Nat → α) : Nat → α := if dp < 4 then f else rotN f
def kdp (dp : Int) : Int := if dp < 4 then dp + 1 else dp
def rcH {α : Type} (v dp : Int) (f : Nat → α) : Nat → α := if 0 ≤ v then kh dp f else f
def rcP (v dp : Int) : Int := if 0 ≤ v then kdp dp else dp
theorem rot_A (hs : Nat → Nat) : upA (upA (upA (upA (upA hs 0 (hs 1)) 1 (hs 2)) 2 (hs 3)) 3 (hs 4)) 4 (hs 0) = rotN hs := by
  funext i
  match i with
  | 0 => rfl
  | 1 => rfl
  | 2 => rfl
  | 3 => rfl
  | 4 => rfl
  | n + 5 =>
    unfold upA rotN
    rw [if_neg (by omega), if_neg (by omega), if_neg (by omega), if_neg (by omega), if_neg (by omega), if_neg (by omega), if_neg (by omega)]
theorem kdp_b {dp : Int} (h : 0 ≤ dp ∧ dp ≤ 4) : 0 ≤ kdp dp ∧ kdp dp ≤ 4 := by unfold kdp; split <;> omega
theorem rcP_b {v dp : Int} (h : 0 ≤ dp ∧ dp ≤ 4) : 0 ≤ rcP v dp ∧ rcP v dp ≤ 4 := by
  unfold rcP; split
  · exact kdp_b h
  · exact h
/-! doing a thing, as the class does it -/
def hpU (σ : Int → Int) (cL nu sd : Int) : Int := if cL = 103 then guA σ nu sd else if cL = 46 then pu2 σ nu else if cL = 99 then seu σ else swu σ nu
def hpV (σ : Int → Int) (cL nu sd : Int) : Int → Int := if cL = 103 then guW σ nu sd else if cL = 46 then pvW σ nu else if cL = 99 then sevW σ else swv σ nu
def aU (τ σ : Int → Int) (le P : Int) : Int := hpU σ (ltr τ le P) (tnu τ le P) (tsi τ le P)
def aV (τ σ : Int → Int) (le P : Int) : Int → Int := hpV σ (ltr τ le P) (tnu τ le P) (tsi τ le P)
abbrev stA (u : Int) : Prop := -4 ≤ u ∧ u ≤ -1
def ars1 (τ : Int → Int) (le j : Int) (x : (Int → Int) × Int × Int) : (Int → Int) × Int × Int := if x.2.2 = 0 then (if stA (aU τ x.1 le (itp τ le j).1) then (aV τ x.1 le (itp τ le j).1, x.2.1, aU τ x.1 le (itp τ le j).1) else (aV τ x.1 le (itp τ le j).1, x.2.1 + 1, 0)) else x
def ars (τ σ : Int → Int) (le n : Int) : (Int → Int) × Int × Int := it (ars1 τ le) (σ, 0, 0) n
theorem ars_s (τ σ : Int → Int) (le : Int) {n : Int} (h : 0 ≤ n) : ars τ σ le (n + 1) = ars1 τ le n (ars τ σ le n) := it_s _ _ h
def ar (τ σ : Int → Int) (le : Int) : (Int → Int) × Int × Int := ars τ σ le ((fin τ le).2 + 1)
theorem ars_stay {τ σ : Int → Int} {le n : Int} (hn : 0 ≤ n) (hc : (ars τ σ le n).2.2 ≠ 0) : ∀ k : Nat, ars τ σ le (n + k) = ars τ σ le n := by
  intro k
  induction k with
  | zero => rw [show n + ((0 : Nat) : Int) = n by omega]
  | succ k ih =>
    rw [show n + ((k + 1 : Nat) : Int) = (n + k) + 1 by omega, ars_s τ σ le (by omega), ih]
    unfold ars1; rw [if_neg hc]
theorem ar_stop {τ σ : Int → Int} {le n : Int} {st : Int → Int} (hn : 0 ≤ n) (hn2 : n ≤ (fin τ le).2) (hs : (st, n, 0) = ars τ σ le n) (hu : stA (aU τ st le (itp τ le n).1)) : ar τ σ le = (aV τ st le (itp τ le n).1, n, aU τ st le (itp τ le n).1) := by
  have h1 : ars τ σ le (n + 1) = (aV τ st le (itp τ le n).1, n, aU τ st le (itp τ le n).1) := by
    rw [ars_s τ σ le hn, ← hs]
    unfold ars1
    rw [if_pos rfl, if_pos (show stA (aU τ (st, n, 0).1 le (itp τ le n).1) from hu)]
  have h3 := ars_stay (τ := τ) (σ := σ) (le := le) (n := n + 1) (by omega) (by rw [h1]; show aU τ st le (itp τ le n).1 ≠ 0; omega) ((fin τ le).2 - n).toNat
  rw [show n + 1 + ((((fin τ le).2 - n).toNat : Nat) : Int) = (fin τ le).2 + 1 by omega, h1] at h3
  exact h3
theorem ars_go {τ σ : Int → Int} {le n : Int} {st : Int → Int} (hn : 0 ≤ n) (hs : (st, n, 0) = ars τ σ le n) (hu : ¬ stA (aU τ st le (itp τ le n).1)) : (aV τ st le (itp τ le n).1, n + 1, 0) = ars τ σ le (n + 1) := by
  rw [ars_s τ σ le hn, ← hs]
  unfold ars1
  rw [if_pos rfl, if_neg (show ¬ stA (aU τ (st, n, 0).1 le (itp τ le n).1) from hu)]
theorem ar_end {τ σ : Int → Int} {le n : Int} {st : Int → Int} (hs : (st, n, 0) = ars τ σ le n) (he : n = (fin τ le).2 + 1) : ar τ σ le = (st, n, 0) := by
  unfold ar; rw [← he, ← hs]
theorem fr_same {ws wc w1 ws' : va_W} (h : Fr ws wc w1 ws') : Fr ws wc wc ws := by
  obtain ⟨v, h1, -⟩ := h
  exact ⟨v, h1, h1.symm⟩
end
section
/-! The class's acts keep the ranges; a text's things one by one. -/
theorem comA_eq (σ : Int → Int) (pa co wi : Int) (hn : 0 ≤ σ 0) : comA σ pa co wi = com σ pa co wi := by
  funext k
  show up (up (up (up (up (up (up (up σ (13 + 6 * σ 0 + 0) (σ 1)) (13 + 6 * σ 0 + 1) 0) (13 + 6 * σ 0 + 2) pa) (13 + 6 * σ 0 + 3) co) (13 + 6 * σ 0 + 4) wi) (13 + 6 * σ 0 + 5) 0) 0 _) 1 _ k = up (up (up (up (up (up (up (up σ 0 (σ 0 + 1)) (13 + 6 * σ 0 + 0) _) (13 + 6 * σ 0 + 1) 0) (13 + 6 * σ 0 + 2) pa) (13 + 6 * σ 0 + 3) co) (13 + 6 * σ 0 + 4) wi) (13 + 6 * σ 0 + 5) 0) 1 _ k
  have e0 : ∀ a b x d e f : Int, up (up (up (up (up (up σ (13 + 6 * σ 0 + 0) a) (13 + 6 * σ 0 + 1) b) (13 + 6 * σ 0 + 2) x) (13 + 6 * σ 0 + 3) d) (13 + 6 * σ 0 + 4) e) (13 + 6 * σ 0 + 5) f 0 = σ 0 := fun a b x d e f => by
    rw [up_n _ _ (by omega), up_n _ _ (by omega), up_n _ _ (by omega), up_n _ _ (by omega), up_n _ _ (by omega), up_n _ _ (by omega)]
  have e1 : ∀ a b x d e f v : Int, up (up (up (up (up (up (up σ (13 + 6 * σ 0 + 0) a) (13 + 6 * σ 0 + 1) b) (13 + 6 * σ 0 + 2) x) (13 + 6 * σ 0 + 3) d) (13 + 6 * σ 0 + 4) e) (13 + 6 * σ 0 + 5) f) 0 v 1 = σ 1 := fun a b x d e f v => by
    rw [up_n _ _ (by omega), up_n _ _ (by omega), up_n _ _ (by omega), up_n _ _ (by omega), up_n _ _ (by omega), up_n _ _ (by omega), up_n _ _ (by omega)]
  have e2 : up σ 0 (σ 0 + 1) 1 = σ 1 := up_n _ _ (by omega)
  have e3 : ∀ a b x d e f v : Int, up (up (up (up (up (up (up σ 0 v) (13 + 6 * σ 0 + 0) a) (13 + 6 * σ 0 + 1) b) (13 + 6 * σ 0 + 2) x) (13 + 6 * σ 0 + 3) d) (13 + 6 * σ 0 + 4) e) (13 + 6 * σ 0 + 5) f 1 = σ 1 := fun a b x d e f v => by
    rw [up_n _ _ (by omega), up_n _ _ (by omega), up_n _ _ (by omega), up_n _ _ (by omega), up_n _ _ (by omega), up_n _ _ (by omega), up_n _ _ (by omega)]
  rw [e0, e1, e2, e3]
  by_cases k1 : k = 1
  · rw [k1, up_s, up_s]
  · rw [up_n _ _ k1, up_n _ _ k1]
    by_cases k0 : k = 0
    · rw [k0, up_s, up_n _ _ (by omega), up_n _ _ (by omega), up_n _ _ (by omega), up_n _ _ (by omega), up_n _ _ (by omega), up_n _ _ (by omega), up_s]
    · rw [up_n _ _ k0]
      unfold up
      (repeat' split) <;> first | rfl | omega
theorem comW_eq (σ : Int → Int) (pa co wi : Int) (hn : 0 ≤ σ 0) : comW σ pa co wi = comv σ pa co wi := by
  unfold comW comv; rw [comA_eq σ pa co wi hn]
theorem levW_I {σ : Int → Int} (h : Iv σ) (p : Int) : Iv (levW σ p) := by
  unfold levW
  split
  · exact up_I (rm_I rmv_o h (by omega) (by omega)) (by omega)
  · exact h
theorem soW_I {σ : Int → Int} (hb : 0 ≤ σ 0 ∧ σ 0 ≤ 16) (hP : ∀ x : Int, 0 ≤ x → x < σ 0 → Pv σ x) (hC : Cv σ) : Iv (soW σ) :=
  up_I (rms_I rmv_o rfl hb.1 hb.2 hP hC) (by omega)
theorem g8_C {σ : Int → Int} (h : Cv σ) (d side : Int) : Cv (g8 σ d side) :=
  Cv_of h ((up_n _ _ (by omega)).trans (gw_n σ d side _ (by omega))) ((up_n _ _ (by omega)).trans (gw_n σ d side _ (by omega))) ((up_n _ _ (by omega)).trans (gw_n σ d side _ (by omega))) ((up_n _ _ (by omega)).trans (gw_n σ d side _ (by omega))) ((up_n _ _ (by omega)).trans (gw_n σ d side _ (by omega)))
theorem guW_I {σ : Int → Int} (h : Iv σ) (d side : Int) : Iv (guW σ d side) := by
  unfold guW
  obtain ⟨b, f, g⟩ := Iv_iff.mp h
  split
  · exact soW_I (by rw [g8_0]; exact b) (g8_P h (by omega) (by omega)) (g8_C g d side)
  · exact h
theorem pvW_I {σ : Int → Int} (h : Iv σ) (mi : Int) : Iv (pvW σ mi) := by
  unfold pvW
  have g9 := (Iv_iff.mp h).2.2.2.1
  split
  · have h9 := up9_I (v := σ 9 + mi) h (by omega)
    have := dr_I h9 (mi := mi) (by omega)
    rw [show up σ 9 (σ 9 + mi) 0 = σ 0 from up_n _ _ (by omega)] at this
    exact this
  · exact h
theorem rmk_I {σ : Int → Int} (h : Iv σ) {n : Int} (h1 : n ≤ σ 0) : ∀ j : Int, 0 ≤ j → j ≤ n → Iv (rmk σ n j) := by
  intro j j0 j1
  have key := it_ind (fun j st => rmv st (n - 1 - j)) σ (fun j st => Iv st ∧ st 0 = σ 0 - j) n ⟨h, by omega⟩ (fun i st i0 i1 hx => by
    show Iv (rmv st (n - 1 - i)) ∧ rmv st (n - 1 - i) 0 = σ 0 - (i + 1)
    exact ⟨rm_I rmv_o hx.1 (by omega) (by omega), by rw [rmv_0 st _ (by omega)]; omega⟩) j j0 j1
  exact key.1
theorem sevW_I {σ : Int → Int} (h : Iv σ) : Iv (sevW σ) := by
  unfold sevW
  obtain ⟨b, f, g⟩ := Iv_iff.mp h
  split
  · exact h
  · have h3 : Iv (sa3 σ) := up_I (up_I (up_I h (by omega)) (by omega)) (by omega)
    have hs := srv_b (σ := σ) (by omega) g.2.2.2.1
    have e3 : sa3 σ 0 = σ 0 := by simp [sa3, sa2, sa1, up]
    exact rmk_I h3 (by omega) _ (by omega) (Int.le_refl _)
theorem soA_b {σ : Int → Int} (hb : 0 ≤ σ 0 ∧ σ 0 ≤ 16) : 0 ≤ soA σ 0 ∧ soA σ 0 ≤ σ 0 := by
  have := rms_i (rmo_ok rmv_o) (σ := σ) (n := σ 0) rfl hb.2 (σ 0) hb.1 (Int.le_refl _)
  have h1 : rms rmv (σ 0) σ (σ 0) 0 ≤ σ 0 := this.1
  have h2 : σ 0 - σ 0 ≤ rms rmv (σ 0) σ (σ 0) 0 := this.2.1
  unfold soA; omega
theorem guA_b {σ : Int → Int} (h : Iv σ) (d side : Int) : -5 ≤ guA σ d side ∧ guA σ d side ≤ 16 ∧ (gst d side → guA σ d side < 0 → guA σ d side = -5) := by
  obtain ⟨b, f, g⟩ := Iv_iff.mp h
  have h8 := g8_0 σ d side
  have := soA_b (σ := g8 σ d side) (by rw [h8]; exact b)
  unfold guA; (repeat' split) <;> omega
theorem pu2_b {σ : Int → Int} (h : Iv σ) (mi : Int) : -3 ≤ pu2 σ mi ∧ pu2 σ mi ≤ 16 ∧ (1 ≤ mi ∧ mi ≤ 99 → pu2 σ mi < 0 → pu2 σ mi = -3) := by
  have := pau_b h mi
  unfold pu2; split <;> omega
theorem hpV_I {σ : Int → Int} (h : Iv σ) (cL nu sd : Int) : Iv (hpV σ cL nu sd) := by
  unfold hpV
  split
  · exact guW_I h nu sd
  · split
    · exact pvW_I h nu
    · split
      · exact sevW_I h
      · exact sw_I h nu
theorem hpU_b {σ : Int → Int} (h : Iv σ) {cL nu sd : Int} (hv : exok cL nu sd) : -13 ≤ hpU σ cL nu sd ∧ hpU σ cL nu sd ≤ 9999 ∧ (hpU σ cL nu sd < 0 → hpU σ cL nu sd = -5 ∨ hpU σ cL nu sd = -3 ∨ hpU σ cL nu sd = -1 ∨ hpU σ cL nu sd ≤ -11) := by
  unfold hpU
  by_cases c1 : cL = 103
  · rw [if_pos c1]; have := guA_b h nu sd; have := hv.1 c1; omega
  · rw [if_neg c1]
    by_cases c2 : cL = 46
    · rw [if_pos c2]; have := pu2_b h nu; have := hv.2.1 c2; omega
    · rw [if_neg c2]
      split
      · have := seu_b h; omega
      · have := swu_b h nu; omega
theorem itp_idx {τ : Int → Int} {le : Int} (hl : 0 ≤ le ∧ le ≤ 60) : ∀ n : Nat, (n : Int) ≤ (fin τ le).2 → (itp τ le n).2 = n := by
  have hf := itp_b τ hl.1 40 (by omega)
  have hf2 : 2 * (fin τ le).2 ≤ (fin τ le).1 ∧ (fin τ le).1 ≤ le := ⟨hf.2.2.1, hf.2.2.2⟩
  intro n
  induction n with
  | zero => intro _; rfl
  | succ n ih =>
    intro hn
    have h1 := ih (by omega)
    have he : ((itp τ le (n : Int)).1, (n : Int)) = itp τ le (n : Int) := Prod.ext rfl h1.symm
    by_cases c : cont τ le (itp τ le (n : Int)).1
    · have := itp_go (by omega) he c
      rw [show ((n + 1 : Nat) : Int) = (n : Int) + 1 by omega, ← this]
    · have := fin_at (by omega) (by omega) he c
      rw [this] at hn
      exact absurd hn (by show ¬ ((n + 1 : Nat) : Int) ≤ (n : Int); omega)
theorem itp_tok {τ : Int → Int} {le i : Int} (hl : 0 ≤ le ∧ le ≤ 60) (hw : wok τ le) (h0 : 0 ≤ i) (h1 : i ≤ (fin τ le).2) : ((itp τ le i).1, i) = itp τ le i ∧ tok τ le (itp τ le i).1 ∧ i ≤ 29 := by
  have hb := itp_b τ hl.1 i h0
  have hx := itp_idx (τ := τ) hl i.toNat (by omega)
  rw [show ((i.toNat : Nat) : Int) = i by omega] at hx
  have he : ((itp τ le i).1, i) = itp τ le i := Prod.ext rfl hx.symm
  have hf := itp_b τ hl.1 40 (by omega)
  have hf2 : 2 * (fin τ le).2 ≤ (fin τ le).1 ∧ (fin τ le).1 ≤ le := ⟨hf.2.2.1, hf.2.2.2⟩
  have ht := (wok_at hw h0 (by omega) he).1
  have := tok_lt ht
  exact ⟨he, ht, by omega⟩
theorem flt_b {τ : Int → Int} {le : Int} (hl : 0 ≤ le ∧ le ≤ 60) : 0 ≤ flt τ le ∧ flt τ le ≤ 100 := by
  have hf := itp_b τ hl.1 40 (by omega)
  have hf2 : 0 ≤ (fin τ le).2 ∧ 2 * (fin τ le).2 ≤ (fin τ le).1 ∧ (fin τ le).1 ≤ le := ⟨hf.1, hf.2.2.1, hf.2.2.2⟩
  unfold flt
  split
  · next h => have := ten_b h; omega
  · unfold tfl; split <;> omega
/-! perform, as the class does it -/
def mm (τ : Int → Int) (le : Int) : Int := if tok τ le (fin τ le).1 then (fin τ le).2 + 1 else (fin τ le).2
def paU (τ σ : Int → Int) (le : Int) : Int := if wok τ le then (if (ar τ σ le).2.2 < 0 then -4 else (fin τ le).2 + 1) else -100 - flt τ le
abbrev pdone (τ σ : Int → Int) (le : Int) : Prop := wok τ le ∧ ¬ (ar τ σ le).2.2 < 0
abbrev pstop (τ σ : Int → Int) (le : Int) : Prop := wok τ le ∧ (ar τ σ le).2.2 < 0
def paV (τ σ : Int → Int) (le : Int) : Int → Int := if pdone τ σ le then (ar τ σ le).1 else σ
theorem pdone_iff {τ σ : Int → Int} {le : Int} (hw : wok τ le) (h : (ar τ σ le).2.2 = 0) : pdone τ σ le ∧ ¬ pstop τ σ le := ⟨⟨hw, by omega⟩, fun z => by have := z.2; omega⟩
end
section
/-! Making objects. -/
def st0 : Int → Int := fun k => if k = 10 then 3 else if k = 11 then 2 else if k = 12 then 5 else 0
theorem st0_r {k : Int} (hk : 0 ≤ k) : ac (rr st0 k) = ac (fun _ => 0) := by
  funext j; unfold ac rr st0
  rw [if_neg (by omega), if_neg (by omega), if_neg (by omega)]
theorem st0_s : ac (sg st0) = ac (up (up (up (fun _ => 0) 0 3) 1 2) 2 5) := by
  funext j; unfold ac
  congr 1
  unfold sg
  by_cases c : 0 ≤ (j : Int) ∧ (j : Int) < 3
  · rw [if_pos c]
    have h3 : (j : Int) = 0 ∨ (j : Int) = 1 ∨ (j : Int) = 2 := by omega
    rcases h3 with h | h | h <;> rw [h] <;> rfl
  · rw [if_neg c, up_n _ _ (by omega), up_n _ _ (by omega), up_n _ _ (by omega)]
theorem st0_I : Iv st0 := Iv_iff.mpr ⟨by unfold st0; simp, fun x x0 x1 => absurd x1 (by unfold st0; simp; omega), by unfold Cv st0; simp⟩
/-- what the maker's addresses are -/
def adx (a0 a1 a2 a3 a4 a5 a6 : Nat) : Nat → Nat := fun k => match k with | 0 => a0 | 1 => a1 | 2 => a2 | 3 => a3 | 4 => a4 | 5 => a5 | _ => a6
theorem at_refs {D : va_G} {cl : List vw_C} {a n : Nat} {cA : ClassId} {f g : Nat → Option Nat} {H : Heap} (hfg : ∀ k : Nat, k < n → f k = g k) (h : va_at D cl (a, .inl (cA, n, .inr (.inr (.inr (.inr f))))) H) : va_at D cl (a, .inl (cA, n, .inr (.inr (.inr (.inr g))))) H := by
  have e : vp_cell cA (n, .inr (.inr (.inr (.inr f)))) = vp_cell cA (n, .inr (.inr (.inr (.inr g)))) := by
    show arrV cA n (fun j => va_rf (f j)) = arrV cA n (fun j => va_rf (g j))
    unfold arrV
    congr 1
    apply Array.ext
    · simp
    · intro i h1 h2
      have hi : i < n := by simpa using h1
      simp only [Array.getElem_ofFn]
      rw [hfg i hi]
  show H[a]? = some (vp_cell cA (n, .inr (.inr (.inr (.inr g)))))
  rw [← e]; exact h
theorem fr_tl {x wc w1 : va_W} : Fr (x ++ wc) wc w1 (x ++ w1) := ⟨x, List.perm_append_comm, List.perm_append_comm⟩
section QM
variable {p : Program} {l : Launch} {e : Env} {R : Room} {s : State} {m : MethodId} {args : Array Value} {below : List Frame} {meth : Method} {c : Code} {H : Heap} {locs : List Loc} {cells slots : Nat} {Q : State → Prop}
variable {cc : ByteArray} {nL : Nat} {own : String} {Ts : List Cond} {D : va_G} {tys : List (ClassId × FieldType)} {A : Nat → Prop} {ret : Option FieldType} {pc : Nat} {ls : Array Slot} {rest : List Value} {ws wc ws' b : va_W} {cI cC cS : ClassId}
theorem q_objInit {a idx : Nat} {lv : List (Nat × Value)} (C : Cx p s m args meth c cc nL own Ts D tys A ret) (hl : lv_has ls nL lv) (hlink : Cond.methodLink own idx objectInit ∈ Ts) (hinst : Cond.instanceMethod objectInit ∈ Ts) (hcode : Cond.code objectInit ⟨#[0xb1]⟩ 1 none ∈ Ts) (hframes : 1 ≤ R.frames) (hlocals : (rest.map fun v => v.category).sum + 20 ≤ R.locals) (hcat : (rest.map fun v => v.category).sum ≤ 8) (hdg : decode cc pc = .ok (.invokespecial idx, 3))
    (kk : W p l e R s m args below meth c H locs cells slots Q (F0 m (pc + 3) ls rest)) : W p l e R s m args below meth c H locs cells slots Q (F0 m pc ls (.ref a :: rest)) := by
  have hr := lv_room (m := m) (pc := pc) (rest := rest) (ls := ls) hcat
  exact W.objInit (g := F0 m pc ls (.ref a :: rest)) C.1 C.2.1 C.ho (C.ts _ hlink) (C.ts _ hinst) (C.ts _ hcode) rfl (hl.1.trans C.2.2.1.symm) rfl hdg hframes (by
    have h0 : 2 * (F0 m pc ls (.ref a :: rest)).monitorRoom = 0 := rfl
    omega) kk
theorem q_newi {n : Int} {N : Nat} (C : Cx p s m args meth c cc nL own Ts D (tz cI cC cS) A ret) (w : Wd D A s ws H locs) (harr : Cond.arrayClass .int ∈ Ts) (hn : n = (N : Int)) (hN : N ≤ 1000) (hcells : cells + 1 ≤ R.cells) (hslots : slots + N ≤ R.slots) (hdg : decode cc pc = .ok (.newarray .int, 2))
    (kk : ∀ (q : Nat) (H1 : Heap), Wd D A s (ws ++ [(q, .inl (cI, N, .inl (ac (fun _ => 0))))]) H1 locs → W p l e R s m args below meth c H1 locs (cells + 1) (slots + N) Q (F0 m (pc + 2) ls (.ref q :: rest))) : W p l e R s m args below meth c H locs cells slots Q (F0 m pc ls (.int (jj n) :: rest)) := by
  have hc := jj_cl (i := n) (by omega) (by omega)
  refine va_newa (atype := .int) (ty := .int) (N' := N) (a0 := (N, .inl (ac (fun _ => 0)))) C.1 C.2.1 (C.ts _ harr) rfl C.K w.1 w.2.1 w.2.2 C.hA (fun _ => rfl) (fun hh => ?_) (by omega) ?_ hcells hslots hdg (fun q cA H1 hK1 hP hD hS => ?_)
  · have := (jj_lt (a := n) (b := 0) (by omega) (by omega) (by omega) (by omega)).mp hh
    omega
  · show N * 4 ≤ 536870912
    omega
  · have e1 : s.vm.findClass ("[" ++ FieldType.int.toString) = some cI := (hK1.2 0 (cI, .int) rfl).2
    have e2 : s.vm.findClass ("[" ++ FieldType.int.toString) = some cA := (hK1.2 3 (cA, .int) rfl).2
    have e3 : cI = cA := Option.some.inj (e1.symm.trans e2)
    subst e3
    exact kk q H1 ⟨hP, hD, hS⟩
theorem q_newc {n : Int} {N : Nat} (C : Cx p s m args meth c cc nL own Ts D (tz cI cC cS) A ret) (w : Wd D A s ws H locs) (harr : Cond.arrayClass .char ∈ Ts) (hn : n = (N : Int)) (hN : N ≤ 1000) (hcells : cells + 1 ≤ R.cells) (hslots : slots + N ≤ R.slots) (hdg : decode cc pc = .ok (.newarray .char, 2))
    (kk : ∀ (q : Nat) (H1 : Heap), Wd D A s (ws ++ [(q, .inl (cC, N, .inl (ac (fun _ => 0))))]) H1 locs → W p l e R s m args below meth c H1 locs (cells + 1) (slots + N) Q (F0 m (pc + 2) ls (.ref q :: rest))) : W p l e R s m args below meth c H locs cells slots Q (F0 m pc ls (.int (jj n) :: rest)) := by
  have hc := jj_cl (i := n) (by omega) (by omega)
  refine va_newa (atype := .char) (ty := .char) (N' := N) (a0 := (N, .inl (ac (fun _ => 0)))) C.1 C.2.1 (C.ts _ harr) rfl C.K w.1 w.2.1 w.2.2 C.hA (fun _ => rfl) (fun hh => ?_) (by omega) ?_ hcells hslots hdg (fun q cA H1 hK1 hP hD hS => ?_)
  · have := (jj_lt (a := n) (b := 0) (by omega) (by omega) (by omega) (by omega)).mp hh
    omega
  · show N * 2 ≤ 536870912
    omega
  · have e1 : s.vm.findClass ("[" ++ FieldType.char.toString) = some cC := (hK1.2 1 (cC, .char) rfl).2
    have e2 : s.vm.findClass ("[" ++ FieldType.char.toString) = some cA := (hK1.2 3 (cA, .char) rfl).2
    have e3 : cC = cA := Option.some.inj (e1.symm.trans e2)
    subst e3
    exact kk q H1 ⟨hP, hD, hS⟩
theorem q_newo {Cn : String} {T : u_T} {N ci index : Nat} {fs : List Value} (C : Cx p s m args meth c cc nL own Ts D tys A ret) (w : Wd D A s ws H locs) (hin : ∀ w ∈ u_ws Cn T N, w ∈ Ts) (ty : Nat → FieldType) (hty : ∀ k, k < N → parseFieldDescriptor (T k).2.2.1 = some (ty k)) (hcl : Cond.classLink own index Cn ∈ Ts) (hinst : Cond.instantiable Cn N ∈ Ts) (hini : Cond.initialized Cn ∈ Ts) (hc : vwCl[ci]? = some (Cn, T, N)) (hfs : ∀ j, j < N → defaultValue (ty j) = vp_V fs j) (hcells : cells + 1 ≤ R.cells) (hslots : slots + N ≤ R.slots) (hdg : decode cc pc = .ok (.new index, 3))
    (kk : ∀ (q : Nat) (H1 : Heap), Wd D A s (ws ++ [(q, .inr (ci, fs))]) H1 locs → W p l e R s m args below meth c H1 locs (cells + 1) (slots + N) Q (F0 m (pc + 3) ls (.ref q :: rest))) : W p l e R s m args below meth c H locs cells slots Q (F0 m pc ls rest) :=
  va_new C.1 C.2.1 C.ts hin ty hty C.ho (C.ts _ hcl) (C.ts _ hinst) (C.ts _ hini) C.K w.1 w.2.1 w.2.2 C.hA hc hfs hcells hslots hdg (fun q H1 hP hD hS => kk q H1 ⟨hP, hD, hS⟩)
/-- a final field in its class's maker -/
theorem q_putF {Cn : String} {T : u_T} {N ci index : Nat} {a : Nat} {fs : List Value} {v : Value} {ty : FieldType} (C : Cx p s m args meth c cc nL own Ts D tys A ret) (hin2 : meth.name = "<init>") (w : Wd D A s ws H locs) (hin : ∀ w ∈ u_ws Cn T N, w ∈ Ts) (ty0 : Nat → FieldType) (hty : ∀ k, k < N → parseFieldDescriptor (T k).2.2.1 = some (ty0 k)) (hnm : ∀ a, a < N → ∀ b, b < N → a ≠ b → (T a).2.1 ≠ (T b).2.1)
    (q0 : Nat) (he : ws[q0]? = some (a, .inr (ci, fs))) (hc : vwCl[ci]? = some (Cn, T, N)) (k : Nat) (hk : k < N) (hlink : Cond.fieldLink own index (T k).1 (T k).2.1 (T k).2.2.1 ∈ Ts) (hfin : (T k).2.2.2 = true) (hdecl : (T k).1 = own) (hd : parseFieldDescriptor (T k).2.2.1 = some ty) (hn : narrow ty v = v) (hfit : fits ty v = true) (hl : k < fs.length) (hdg : decode cc pc = .ok (.putfield index, 3))
    (hw : ws.set q0 (a, .inr (ci, fs.set k v)) = ws')
    (kk : ∀ (H1 : Heap) (locs1 : List Loc), Wd D A s ws' H1 locs1 → W p l e R s m args below meth c H1 locs1 cells slots Q (F0 m (pc + 3) ls rest)) : W p l e R s m args below meth c H locs cells slots Q (F0 m pc ls (v :: .ref a :: rest)) :=
  va_putF C.1 C.2.1 C.ts hin ty0 hty hnm C.ho C.K w.1 w.2.1 w.2.2 q0 he hc k hk (C.ts _ hlink) (fun _ h => h) hfin hin2 hdecl hd hn hfit hl hdg (fun H1 locs1 hP hD hS => by subst hw; exact kk H1 locs1 ⟨hP, hD, hS⟩)
/-- a maker's end: the world is one of those of wn -/
theorem q_vretU {U : Type} {wn : U → va_W} {mc ms : Nat} (u : U) (C : Cx p s m args meth c cc nL own Ts D tys A none) (w : Wd D A s (wn u) H locs) (hm : cells = mc) (hs : slots = ms) (hdg : decode cc pc = .ok (.return_, 1)) :
    W p l e R s m args below meth c H locs cells slots (MQ below (va_Qv (fun _ : U => True) (fun u t => bW D tys A (wn u) t) A) args s mc ms A) (F0 m pc ls []) := by
  subst hm; subst hs
  have hlocks := C.locks
  exact W.vret C.1 C.2.1 C.hr (fun t ht hW => ⟨⟨u, rfl, trivial, (end_w C w t ht hW).1⟩, (end_w C w t ht hW).2⟩) w.2.2.2.2 hdg
/-- a maker's contract -/
def Kn {U : Type} (l : Launch) (y : MethodName) (wy : List Cond) (rm : Room) (D : va_G) (tys : List (ClassId × FieldType)) (av : List Value) (w0 : va_W) (wn : U → va_W) (mc ms : Nat) : Prop :=
  ∀ sz : Nat, Met l y wy rm (va_Pc av (pW D tys sz w0)) (va_Qv (fun _ : U => True) (fun u t => bW D tys (va_A w0 sz) (wn u) t) (va_A w0 sz)) mc ms (va_A w0 sz)
theorem q_runU {U : Type} {wn ws2 : U → va_W} {mc ms : Nat} {st0_ : List Value} {a : Array Value} (C : Cx p s m args meth c cc nL own Ts D tys A ret) (w : Wd D A s ws H locs) (fr : ∀ u, Fr ws wc (wn u) (ws2 u))
    (frx : ∃ w1 w2, Fr ws wc w1 w2)
    (hr : va_Run p l e R s m args below meth c H locs cells slots mc ms (F0 m pc ls st0_) rest (va_Qv (fun _ : U => True) (fun u t => bW D tys (va_A wc H.size) (wn u) t) (va_A wc H.size) a) (va_A wc H.size))
    (kk : ∀ (u : U) (H1 : Heap) (locs1 : List Loc), Wd D A s (ws2 u) H1 locs1 → W p l e R s m args below meth c H1 locs1 (cells + mc) (slots + ms) Q (F0 m (pc + 3) ls rest)) : W p l e R s m args below meth c H locs cells slots Q (F0 m pc ls st0_) := by
  obtain ⟨w1, w2, frx⟩ := frx
  have hF := fr_F frx w.2.1 w.2.2 C.hA
  refine va_callv hr w.2.2 (fun q _ h => hF q h) hF (fun u t H1 locs1 ht hvm hpost hB hz hk hS => ?_)
  obtain ⟨hP1, -, hD1⟩ := hB
  rw [ht] at hP1
  exact kk u H1 locs1 (wd_frame (fr u) w C.hA hk hP1 hD1 hS)
def Fn (y : MethodName) (ws : List Cond) (rm : Room) (bytes : ByteArray) (nL : Nat) (mc ms : Nat) : Prop :=
  (∃ ws', ws = Cond.code y bytes nL none :: ws') ∧ rm.cells = mc ∧ rm.slots = ms ∧ y.cls ≠ "java/lang/invoke/MethodHandle" ∧ y.cls ≠ "java/lang/invoke/VarHandle" ∧ (parseMethodDescriptor y.desc).map (fun d => d.parameters.length) = some 0 ∧ y.name = "<init>"
/-- a maker's run: in reach, or a nest mate's -/
theorem q_I {y : MethodName} {wy : List Cond} {rm : Room} {bytes : ByteArray} {maxL index b mc ms : Nat} {Qc : Array Value → State → Outcome → State → Prop} {fr1 : Nat → Prop}
    (C : Cx p s m args meth c cc nL own Ts D tys A ret) (w : Wd D A s ws H locs) (fr : Fr ws wc wc ws) (F : Fn y wy rm bytes maxL mc ms) (hG : GoodIn Ts wy) (hini : Cond.initialized y.cls ∈ Ts) (hlink : Cond.methodLink own index y ∈ Ts) (hinst : Cond.instanceMethod y ∈ Ts)
    (hR : rm.frames + 1 ≤ R.frames ∧ 8 + (maxL + 11) + rm.locals ≤ R.locals) (hM : Met l y wy rm (va_Pc [.ref b] (pW D tys H.size wc)) Qc mc ms fr1)
    {st : List Value} (hst : st = .ref b :: rest) {lv : List (Nat × Value)} (hl : lv_has ls nL lv) (hcat : (rest.map fun v => v.category).sum ≤ 8) (hdg : decode cc pc = .ok (.invokespecial index, 3)) (hcs : cells + mc ≤ R.cells ∧ slots + ms ≤ R.slots) :
    va_Run p l e R s m args below meth c H locs cells slots mc ms (F0 m pc ls st) rest (Qc [Value.ref b].toArray) fr1 := by
  obtain ⟨⟨wy', hwy⟩, hrc, hrs, hd1, hd2, hd3, hn⟩ := F
  exact va_runI (As := []) (rest := rest) C.fix hM (cwI 0 C.ts hG hwy hrc hrs (C.ts _ hini) (C.ts _ hlink) (C.ts _ hinst) hn ⟨hd1, hd2, hd3⟩ hR) ⟨pre_blind, pre_here C w fr⟩ rfl rfl hl.1 hst (lv_room hcat) hdg hcs
theorem q_IN {y : MethodName} {wy : List Cond} {rm : Room} {bytes : ByteArray} {maxL index b mc ms : Nat} {host : String} {Qc : Array Value → State → Outcome → State → Prop} {fr1 : Nat → Prop}
    (C : Cx p s m args meth c cc nL own Ts D tys A ret) (w : Wd D A s ws H locs) (fr : Fr ws wc wc ws) (F : Fn y wy rm bytes maxL mc ms) (hG : GoodIn Ts wy) (hini : Cond.initialized y.cls ∈ Ts) (hnest : va_Nw (.methodLinkNest own index y host) s) (hinst : Cond.instanceMethod y ∈ Ts)
    (hR : rm.frames + 1 ≤ R.frames ∧ 8 + (maxL + 11) + rm.locals ≤ R.locals) (hM : Met l y wy rm (va_Pc [.ref b] (pW D tys H.size wc)) Qc mc ms fr1)
    {st : List Value} (hst : st = .ref b :: rest) {lv : List (Nat × Value)} (hl : lv_has ls nL lv) (hcat : (rest.map fun v => v.category).sum ≤ 8) (hdg : decode cc pc = .ok (.invokespecial index, 3)) (hcs : cells + mc ≤ R.cells ∧ slots + ms ≤ R.slots) :
    va_Run p l e R s m args below meth c H locs cells slots mc ms (F0 m pc ls st) rest (Qc [Value.ref b].toArray) fr1 := by
  obtain ⟨⟨wy', hwy⟩, hrc, hrs, hd1, hd2, hd3, hn⟩ := F
  exact va_runIN (As := []) (rest := rest) C.fix hM ⟨va_cnB 0 C.ts hG hwy hrc hrs hnest (C.ts _ hini) ⟨hd1, hd2, hd3⟩ hR, hn, C.ts _ hinst⟩ ⟨pre_blind, pre_here C w fr⟩ rfl rfl hl.1 hst (lv_room hcat) hdg hcs
end QM
end
section
/-! What the law holds a state to. -/
def Ids (σ : Int → Int) : Prop := ∀ x y : Int, 0 ≤ x → x < σ 0 → 0 ≤ y → y < σ 0 → σ (13 + 6 * x + 0) = σ (13 + 6 * y + 0) → x = y
def Ltc (σ : Int → Int) : Prop := ∀ x : Int, 0 ≤ x → x < σ 0 → σ (13 + 6 * x + 0) < σ 1
def Acc (σ : Int → Int) : Prop := σ 1 = σ 0 + σ 2 + σ 3 + σ 4
def Jv (σ : Int → Int) : Prop := Iv σ ∧ Ids σ ∧ Ltc σ ∧ Acc σ
/-- the people of σ' are people of σ, each once -/
def Emb (σ σ' : Int → Int) : Prop := ∃ g : Int → Int, (∀ x : Int, 0 ≤ x → x < σ' 0 → (0 ≤ g x ∧ g x < σ 0) ∧ ∀ k : Int, 0 ≤ k → k < 6 → σ' (13 + 6 * x + k) = σ (13 + 6 * g x + k)) ∧ (∀ x y : Int, 0 ≤ x → x < σ' 0 → 0 ≤ y → y < σ' 0 → g x = g y → x = y)
theorem Emb.rf (σ : Int → Int) : Emb σ σ := ⟨fun x => x, fun x h0 h1 => ⟨⟨h0, h1⟩, fun _ _ _ => rfl⟩, fun _ _ _ _ _ _ h => h⟩
theorem Emb.tr {σ σ' σ'' : Int → Int} (h : Emb σ σ') (h' : Emb σ' σ'') : Emb σ σ'' := by
  obtain ⟨g, a, b⟩ := h
  obtain ⟨g', a', b'⟩ := h'
  refine ⟨fun x => g (g' x), fun x x0 x1 => ?_, fun x y x0 x1 y0 y1 e => ?_⟩
  · obtain ⟨⟨c0, c1⟩, c2⟩ := a' x x0 x1
    obtain ⟨d0, d2⟩ := a (g' x) c0 c1
    exact ⟨d0, fun k k0 k1 => (c2 k k0 k1).trans (d2 k k0 k1)⟩
  · obtain ⟨⟨c0, c1⟩, -⟩ := a' x x0 x1
    obtain ⟨⟨d0, d1⟩, -⟩ := a' y y0 y1
    exact b' x y x0 x1 y0 y1 (b _ _ c0 c1 d0 d1 e)
theorem Emb.rm {rm : (Int → Int) → Int → Int → Int} (hr : rmo rm) {st : Int → Int} {p : Int} (p0 : 0 ≤ p) (p1 : p < st 0) (h16 : st 0 ≤ 16) : Emb st (rm st p) := by
  obtain ⟨y1, y2, y3⟩ := hr st p p0 p1 h16
  refine ⟨fun x => if x < p then x else x + 1, fun x x0 x1 => ?_, fun x y x0 x1 z0 z1 e => ?_⟩
  · by_cases c : x < p
    · have e : (fun x : Int => if x < p then x else x + 1) x = x := if_pos c
      rw [e]
      exact ⟨⟨x0, by omega⟩, fun k k0 k1 => y2 _ (by omega) (by omega)⟩
    · have e : (fun x : Int => if x < p then x else x + 1) x = x + 1 := if_neg c
      rw [e]
      exact ⟨⟨by omega, by omega⟩, fun k k0 k1 => (y3 _ (by omega) (by omega)).trans (congrArg st (by omega))⟩
  · have e : (if x < p then x else x + 1) = (if y < p then y else y + 1) := e
    split at e <;> split at e <;> omega
theorem Emb.ids {σ σ' : Int → Int} (h : Emb σ σ') (hi : Ids σ) : Ids σ' := by
  obtain ⟨g, a, b⟩ := h
  intro x y x0 x1 y0 y1 e
  obtain ⟨⟨c0, c1⟩, c2⟩ := a x x0 x1
  obtain ⟨⟨d0, d1⟩, d2⟩ := a y y0 y1
  rw [c2 0 (by omega) (by omega), d2 0 (by omega) (by omega)] at e
  exact b x y x0 x1 y0 y1 (hi _ _ c0 c1 d0 d1 e)
theorem Emb.lt {σ σ' : Int → Int} (h : Emb σ σ') (h1 : σ' 1 = σ 1) (hl : Ltc σ) : Ltc σ' := by
  obtain ⟨g, a, b⟩ := h
  intro x x0 x1
  obtain ⟨⟨c0, c1⟩, c2⟩ := a x x0 x1
  rw [c2 0 (by omega) (by omega), h1]
  exact hl _ c0 c1
theorem Emb.ups {σ σ' : Int → Int} (h : Emb σ σ') {i : Int} (v : Int) (i1 : 1 ≤ i) (i2 : i < 13) : Emb σ (up σ' i v) := by
  obtain ⟨g, a, b⟩ := h
  have e0 : up σ' i v 0 = σ' 0 := up_n _ _ (by omega)
  refine ⟨g, fun x x0 x1 => ?_, fun x y x0 x1 y0 y1 e => b x y x0 (by omega) y0 (by omega) e⟩
  obtain ⟨c0, c2⟩ := a x x0 (by omega)
  exact ⟨c0, fun k k0 k1 => (up_n _ _ (by omega)).trans (c2 k k0 k1)⟩
theorem Ids.same {σ σ' : Int → Int} (hi : Ids σ) (h0 : σ' 0 = σ 0) (h : ∀ x : Int, 0 ≤ x → x < σ 0 → σ' (13 + 6 * x + 0) = σ (13 + 6 * x + 0)) : Ids σ' := by
  intro x y x0 x1 y0 y1 e
  rw [h x x0 (by omega), h y y0 (by omega)] at e
  exact hi x y x0 (by omega) y0 (by omega) e
theorem Ltc.same {σ σ' : Int → Int} (hi : Ltc σ) (h0 : σ' 0 = σ 0) (h1 : σ' 1 = σ 1) (h : ∀ x : Int, 0 ≤ x → x < σ 0 → σ' (13 + 6 * x + 0) = σ (13 + 6 * x + 0)) : Ltc σ' := by
  intro x x0 x1
  rw [h x x0 (by omega), h1]
  exact hi x x0 (by omega)
/-- the coins: what was paid and not paid goes with what was served -/
def Far (σ σ' : Int → Int) : Prop := σ' 5 + σ' 6 = σ 5 + σ 6 + (σ' 4 - σ 4) * σ 12
theorem Far.same {σ σ' : Int → Int} (h4 : σ' 4 = σ 4) (h5 : σ' 5 = σ 5) (h6 : σ' 6 = σ 6) : Far σ σ' := by
  unfold Far; rw [h4, h5, h6, Int.sub_self, Int.zero_mul, Int.add_zero]
/-! each act -/
theorem com_v {σ : Int → Int} (pa co wi : Int) (hn : 0 ≤ σ 0) : com σ pa co wi 0 = σ 0 + 1 ∧ com σ pa co wi 1 = σ 1 + 1 ∧ com σ pa co wi (13 + 6 * σ 0 + 0) = σ 1 ∧ (∀ k : Int, 2 ≤ k → k < 13 + 6 * σ 0 → com σ pa co wi k = σ k) := by
  have e : ∀ k : Int, com σ pa co wi k = up (up (up (up (up (up (up (up σ 0 (σ 0 + 1)) (13 + 6 * σ 0 + 0) (up σ 0 (σ 0 + 1) 1)) (13 + 6 * σ 0 + 1) 0) (13 + 6 * σ 0 + 2) pa) (13 + 6 * σ 0 + 3) co) (13 + 6 * σ 0 + 4) wi) (13 + 6 * σ 0 + 5) 0) 1 ((up (up (up (up (up (up (up σ 0 (σ 0 + 1)) (13 + 6 * σ 0 + 0) (up σ 0 (σ 0 + 1) 1)) (13 + 6 * σ 0 + 1) 0) (13 + 6 * σ 0 + 2) pa) (13 + 6 * σ 0 + 3) co) (13 + 6 * σ 0 + 4) wi) (13 + 6 * σ 0 + 5) 0) 1 + 1) k := fun _ => rfl
  refine ⟨?_, ?_, ?_, fun k k0 k1 => ?_⟩
  · rw [e, up_n _ _ (by omega), up_n _ _ (by omega), up_n _ _ (by omega), up_n _ _ (by omega), up_n _ _ (by omega), up_n _ _ (by omega), up_n _ _ (by omega), up_s]
  · rw [e, up_s, up_n _ _ (by omega), up_n _ _ (by omega), up_n _ _ (by omega), up_n _ _ (by omega), up_n _ _ (by omega), up_n _ _ (by omega), up_n _ _ (by omega)]
  · rw [e, up_n _ _ (by omega), up_n _ _ (by omega), up_n _ _ (by omega), up_n _ _ (by omega), up_n _ _ (by omega), up_n _ _ (by omega), up_s, up_n _ _ (by omega)]
  · rw [e, up_n _ _ (by omega), up_n _ _ (by omega), up_n _ _ (by omega), up_n _ _ (by omega), up_n _ _ (by omega), up_n _ _ (by omega), up_n _ _ (by omega), up_n _ _ (by omega)]
theorem com_J {σ : Int → Int} (h : Jv σ) (pa co wi : Int) : Jv (comW σ pa co wi) ∧ Far σ (comW σ pa co wi) := by
  have hn := h.1.1.1
  rw [comW_eq σ pa co wi hn]
  obtain ⟨c0, c1, c2, c3⟩ := com_v (σ := σ) pa co wi hn
  have hI := com_I h.1 pa co wi
  unfold comv at hI ⊢
  split
  · next hc =>
    rw [if_pos hc] at hI
    refine ⟨⟨hI, fun x y x0 x1 y0 y1 e => ?_, fun x x0 x1 => ?_, ?_⟩, Far.same (c3 4 (by omega) (by omega)) (c3 5 (by omega) (by omega)) (c3 6 (by omega) (by omega))⟩
    · rw [c0] at x1 y1
      by_cases cx : x = σ 0
      · by_cases cy : y = σ 0
        · omega
        · rw [cx, c2, c3 _ (by omega) (by omega)] at e
          have := h.2.2.1 y y0 (by omega)
          omega
      · by_cases cy : y = σ 0
        · rw [cy, c2, c3 _ (by omega) (by omega)] at e
          have := h.2.2.1 x x0 (by omega)
          omega
        · rw [c3 _ (by omega) (by omega), c3 _ (by omega) (by omega)] at e
          exact h.2.1 x y x0 (by omega) y0 (by omega) e
    · rw [c0] at x1
      rw [c1]
      by_cases cx : x = σ 0
      · rw [cx, c2]; omega
      · rw [c3 _ (by omega) (by omega)]
        have := h.2.2.1 x x0 (by omega)
        omega
    · have := h.2.2.2
      unfold Acc at this ⊢
      rw [c0, c1, c3 2 (by omega) (by omega), c3 3 (by omega) (by omega), c3 4 (by omega) (by omega)]
      omega
  · exact ⟨h, Far.same rfl rfl rfl⟩
theorem lev_J {σ : Int → Int} (h : Jv σ) (p : Int) : Jv (levW σ p) ∧ Far σ (levW σ p) := by
  have hI := levW_I h.1 p
  unfold levW at hI ⊢
  split
  · next hc =>
    rw [if_pos hc] at hI
    obtain ⟨y1, y2, y3⟩ := rmv_o σ p (by omega) (by omega) h.1.1.2.1
    have hE := (Emb.rm rmv_o (st := σ) (p := p) (by omega) (by omega) h.1.1.2.1).ups (i := 2) (rmv σ p 2 + 1) (by omega) (by omega)
    have e : ∀ k : Int, 1 ≤ k → k < 13 → k ≠ 2 → up (rmv σ p) 2 (rmv σ p 2 + 1) k = σ k := fun k k0 k1 k2 => (up_n _ _ k2).trans (y2 k k0 (by omega))
    have e0 : up (rmv σ p) 2 (rmv σ p 2 + 1) 0 = σ 0 - 1 := (up_n _ _ (by omega)).trans y1
    have e2 : up (rmv σ p) 2 (rmv σ p 2 + 1) 2 = σ 2 + 1 := by rw [up_s, y2 2 (by omega) (by omega)]
    refine ⟨⟨hI, hE.ids h.2.1, hE.lt (e 1 (by omega) (by omega) (by omega)) h.2.2.1, ?_⟩, Far.same (e 4 (by omega) (by omega) (by omega)) (e 5 (by omega) (by omega) (by omega)) (e 6 (by omega) (by omega) (by omega))⟩
    have := h.2.2.2
    unfold Acc at this ⊢
    rw [e0, e2, e 1 (by omega) (by omega) (by omega), e 3 (by omega) (by omega) (by omega), e 4 (by omega) (by omega) (by omega)]
    omega
  · exact ⟨h, Far.same rfl rfl rfl⟩
theorem lt_J {σ : Int → Int} (h : Jv σ) (p : Int) : Jv (ltv σ p) ∧ Far σ (ltv σ p) := by
  have hI := lt_I h.1 p
  unfold ltv at hI ⊢
  split
  · next hc =>
    rw [if_pos hc] at hI
    obtain ⟨z1, z2, -, z4⟩ := xls_i σ (p := p) hc.1 6 (by omega) (by omega)
    have hE : Emb σ (xls σ p 6) := by
      have e0 := z1 0 (by omega)
      refine ⟨fun x => if x = p then p + 1 else if x = p + 1 then p else x, fun x x0 x1 => ?_, fun x y x0 x1 y0 y1 e => ?_⟩
      · by_cases c : x = p
        · have e : (fun x : Int => if x = p then p + 1 else if x = p + 1 then p else x) x = p + 1 := if_pos c
          rw [e]
          exact ⟨⟨by omega, by omega⟩, fun k k0 k1 => by rw [c]; exact (z2 k k0 k1).1⟩
        · by_cases c2 : x = p + 1
          · have e : (fun x : Int => if x = p then p + 1 else if x = p + 1 then p else x) x = p := (if_neg c).trans (if_pos c2)
            rw [e]
            exact ⟨⟨by omega, by omega⟩, fun k k0 k1 => by rw [c2]; exact (z2 k k0 k1).2⟩
          · have e : (fun x : Int => if x = p then p + 1 else if x = p + 1 then p else x) x = x := (if_neg c).trans (if_neg c2)
            rw [e]
            exact ⟨⟨by omega, by omega⟩, fun k k0 k1 => z4 _ (by omega) (by omega)⟩
      · have e : (if x = p then p + 1 else if x = p + 1 then p else x) = (if y = p then p + 1 else if y = p + 1 then p else y) := e
        revert e
        (repeat' split) <;> omega
    refine ⟨⟨hI, hE.ids h.2.1, hE.lt (z1 1 (by omega)) h.2.2.1, ?_⟩, Far.same (z1 4 (by omega)) (z1 5 (by omega)) (z1 6 (by omega))⟩
    have := h.2.2.2
    unfold Acc at this ⊢
    rw [z1 0 (by omega), z1 1 (by omega), z1 2 (by omega), z1 3 (by omega), z1 4 (by omega)]
    exact this
  · exact ⟨h, Far.same rfl rfl rfl⟩
theorem sw3_n (σ : Int → Int) {p j : Int} (h1 : j ≠ 13 + 6 * p + 4) (h2 : j ≠ 13 + 6 * (p + 1) + 4) (h3 : j ≠ 13 + 6 * p + 5) (h4 : j ≠ 13 + 6 * (p + 1) + 5) (h5 : j ≠ 7) : sw3 σ p j = σ j := by
  unfold sw3 sw2 sw1 xch
  rw [up_n _ _ h5, up_n _ _ h4, up_n _ _ h3, up_n _ _ h2, up_n _ _ h1]
theorem same_J {σ σ' : Int → Int} (h : Jv σ) (hI : Iv σ') (hl : ∀ k : Int, 0 ≤ k → k < 7 → σ' k = σ k) (hx : ∀ x : Int, 0 ≤ x → x < σ 0 → σ' (13 + 6 * x + 0) = σ (13 + 6 * x + 0)) : Jv σ' ∧ Far σ σ' := by
  have h0 := hl 0 (by omega) (by omega)
  have h1 := hl 1 (by omega) (by omega)
  refine ⟨⟨hI, h.2.1.same h0 hx, h.2.2.1.same h0 h1 hx, ?_⟩, Far.same (hl 4 (by omega) (by omega)) (hl 5 (by omega) (by omega)) (hl 6 (by omega) (by omega))⟩
  have := h.2.2.2
  unfold Acc at this ⊢
  rw [h0, h1, hl 2 (by omega) (by omega), hl 3 (by omega) (by omega), hl 4 (by omega) (by omega)]
  exact this
theorem sw_J {σ : Int → Int} (h : Jv σ) (p : Int) : Jv (swv σ p) ∧ Far σ (swv σ p) := by
  have hI := sw_I h.1 p
  unfold swv at hI ⊢
  split
  · next hc =>
    rw [if_pos hc] at hI
    have hp := hc.1.1
    exact same_J h hI (fun k k0 k1 => sw3_n σ (by omega) (by omega) (by omega) (by omega) (by omega)) (fun x x0 x1 => sw3_n σ (by omega) (by omega) (by omega) (by omega) (by omega))
  · exact ⟨h, Far.same rfl rfl rfl⟩
theorem set_J {σ : Int → Int} (h : Jv σ) (wh v : Int) : Jv (setv σ wh v) ∧ Far σ (setv σ wh v) := by
  have hI := set_I h.1 wh v
  unfold setv at hI ⊢
  split
  · next hc =>
    rw [if_pos hc] at hI
    have hw : 0 ≤ wh := by
      have := hc
      unfold setu at this
      by_cases c : 0 ≤ wh ∧ wh ≤ 2
      · exact c.1
      · rw [if_neg c] at this; omega
    exact same_J h hI (fun k k0 k1 => up_n _ _ (by omega)) (fun x x0 x1 => up_n _ _ (by
      have := hc
      unfold setu at this
      by_cases c : 0 ≤ wh ∧ wh ≤ 2
      · omega
      · rw [if_neg c] at this; omega))
  · exact ⟨h, Far.same rfl rfl rfl⟩
theorem pv_J {σ : Int → Int} (h : Jv σ) (mi : Int) : Jv (pvW σ mi) ∧ Far σ (pvW σ mi) := by
  have hI := pvW_I h.1 mi
  unfold pvW at hI ⊢
  split
  · next hc =>
    rw [if_pos hc] at hI
    exact same_J h hI (fun k k0 k1 => (dr_n _ _ _ (by omega)).trans (up_n _ _ (by omega))) (fun x x0 x1 => (dr_n _ _ _ (by omega)).trans (up_n _ _ (by omega)))
  · exact ⟨h, Far.same rfl rfl rfl⟩
theorem rmk_E {σ : Int → Int} (h16 : σ 0 ≤ 16) {n : Int} (h1 : n ≤ σ 0) : ∀ j : Int, 0 ≤ j → j ≤ n → rmk σ n j 0 = σ 0 - j ∧ Emb σ (rmk σ n j) ∧ ∀ k : Int, 1 ≤ k → k < 13 → rmk σ n j k = σ k := by
  intro j j0 j1
  exact it_ind (fun j st => rmv st (n - 1 - j)) σ (fun j st => st 0 = σ 0 - j ∧ Emb σ st ∧ ∀ k : Int, 1 ≤ k → k < 13 → st k = σ k) n ⟨by omega, Emb.rf σ, fun k _ _ => rfl⟩ (fun i st i0 i1 hx => by
    obtain ⟨x1, x2, x3⟩ := hx
    obtain ⟨y1, y2, -⟩ := rmv_o st (n - 1 - i) (by omega) (by omega) (by omega)
    show rmv st (n - 1 - i) 0 = σ 0 - (i + 1) ∧ Emb σ (rmv st (n - 1 - i)) ∧ ∀ k : Int, 1 ≤ k → k < 13 → rmv st (n - 1 - i) k = σ k
    exact ⟨by omega, x2.tr (Emb.rm rmv_o (by omega) (by omega) (by omega)), fun k k0 k1 => (y2 k k0 (by omega)).trans (x3 k k0 k1)⟩) j j0 j1
theorem sev_J {σ : Int → Int} (h : Jv σ) : Jv (sevW σ) ∧ Far σ (sevW σ) := by
  have hI := sevW_I h.1
  unfold sevW at hI ⊢
  split
  · exact ⟨h, Far.same rfl rfl rfl⟩
  · next hc =>
    rw [if_neg hc] at hI
    obtain ⟨b, f, g⟩ := Iv_iff.mp h.1
    have hs := srv_b (σ := σ) (by omega) g.2.2.2.1
    have s0 : sa3 σ 0 = σ 0 := by simp [sa3, sa2, sa1, up]
    have s4 : sa3 σ 4 = σ 4 + srv σ := by simp [sa3, sa2, sa1, up]
    have s5 : sa3 σ 5 = σ 5 + cpd σ := by simp [sa3, sa2, sa1, up]
    have s6 : sa3 σ 6 = σ 6 + (srv σ * σ 12 - cpd σ) := by simp [sa3, sa2, sa1, up, srv]
    have sl : ∀ k : Int, k ≠ 4 → k ≠ 5 → k ≠ 6 → sa3 σ k = σ k := fun k a b c => by
      unfold sa3 sa2 sa1
      rw [up_n _ _ a, up_n _ _ c, up_n _ _ b]
    obtain ⟨r0, r1, r2⟩ := rmk_E (σ := sa3 σ) (by omega) (n := srv σ) (by omega) (srv σ) (by omega) (Int.le_refl _)
    have hE : Emb σ (sa3 σ) := ((Emb.rf σ).ups _ (by omega) (by omega)).ups _ (by omega) (by omega) |>.ups _ (by omega) (by omega)
    have hE := hE.tr r1
    refine ⟨⟨hI, hE.ids h.2.1, hE.lt ((r2 1 (by omega) (by omega)).trans (sl 1 (by omega) (by omega) (by omega))) h.2.2.1, ?_⟩, ?_⟩
    · have := h.2.2.2
      unfold Acc at this ⊢
      rw [r0, r2 1 (by omega) (by omega), r2 2 (by omega) (by omega), r2 3 (by omega) (by omega), r2 4 (by omega) (by omega), s0, s4, sl 1 (by omega) (by omega) (by omega), sl 2 (by omega) (by omega) (by omega), sl 3 (by omega) (by omega) (by omega)]
      omega
    · unfold Far
      rw [r2 4 (by omega) (by omega), r2 5 (by omega) (by omega), r2 6 (by omega) (by omega), s4, s5, s6, show σ 4 + srv σ - σ 4 = srv σ by omega]
      omega
end
section
/-! A gust: who leaves, and who they were. -/
theorem sum_pos (P : Int → Prop) [DecidablePred P] (n : Int) (hn : 0 ≤ n) : 0 < it (fun q a => a + bI (P q)) 0 n ↔ ∃ q : Int, 0 ≤ q ∧ q < n ∧ P q :=
  (it_ind (fun q a => a + bI (P q)) 0 (fun i a => 0 ≤ a ∧ (0 < a ↔ ∃ q : Int, 0 ≤ q ∧ q < i ∧ P q)) n ⟨Int.le_refl 0, ⟨fun h => absurd h (by omega), fun ⟨q, a, b, _⟩ => absurd a (by omega)⟩⟩ (fun i x h0 h1 hx => by
    show 0 ≤ x + bI (P i) ∧ (0 < x + bI (P i) ↔ ∃ q : Int, 0 ≤ q ∧ q < i + 1 ∧ P q)
    obtain ⟨x0, x1⟩ := hx
    by_cases c : P i
    · rw [bI_t c]; exact ⟨by omega, fun _ => ⟨i, h0, by omega, c⟩, fun _ => by omega⟩
    · rw [bI_f c]
      refine ⟨by omega, fun h => ?_, fun ⟨q, a, b, e⟩ => ?_⟩
      · obtain ⟨q, a, b, e⟩ := x1.mp (by omega); exact ⟨q, a, by omega, e⟩
      · have : q ≠ i := fun z => c (z ▸ e)
        have := x1.mpr ⟨q, a, by omega, e⟩; omega) n hn (Int.le_refl n)).2
/-- a sum from behind -/
theorem sum_fr (f : Int → Int) : ∀ n : Nat, it (fun p a => a + f p) 0 ((n + 1 : Nat) : Int) = f 0 + it (fun p a => a + f (p + 1)) 0 (n : Int) := by
  intro n
  induction n with
  | zero =>
    rw [show ((0 + 1 : Nat) : Int) = 0 + 1 by omega, it_s _ _ (by omega)]
    show 0 + f 0 = f 0 + 0
    omega
  | succ n ih =>
    rw [show ((n + 1 + 1 : Nat) : Int) = ((n + 1 : Nat) : Int) + 1 by omega, it_s _ _ (by omega), ih, show ((n + 1 : Nat) : Int) = (n : Int) + 1 by omega, it_s (fun p a => a + f (p + 1)) _ (by omega)]
    show f 0 + it (fun p a => a + f (p + 1)) 0 (n : Int) + f ((n : Int) + 1) = f 0 + (it (fun p a => a + f (p + 1)) 0 (n : Int) + f ((n : Int) + 1))
    omega
theorem sum_rev (f : Int → Int) : ∀ n : Nat, it (fun t a => a + f ((n : Int) - 1 - t)) 0 (n : Int) = it (fun p a => a + f p) 0 (n : Int) := by
  intro n
  induction n with
  | zero => rfl
  | succ n ih =>
    rw [sum_fr (fun t => f (((n + 1 : Nat) : Int) - 1 - t)) n, show ((n + 1 : Nat) : Int) = (n : Int) + 1 by omega, it_s (fun p a => a + f p) _ (by omega)]
    have e : it (fun t a => a + f ((n : Int) + 1 - 1 - (t + 1))) 0 (n : Int) = it (fun t a => a + f ((n : Int) - 1 - t)) 0 (n : Int) :=
      it_cong _ _ _ _ (fun t x _ _ => by
        show x + f ((n : Int) + 1 - 1 - (t + 1)) = x + f ((n : Int) - 1 - t)
        rw [show (n : Int) + 1 - 1 - (t + 1) = (n : Int) - 1 - t by omega])
    show f ((n : Int) + 1 - 1 - 0) + it (fun t a => a + f ((n : Int) + 1 - 1 - (t + 1))) 0 (n : Int) = it (fun p a => a + f p) 0 (n : Int) + f (n : Int)
    rw [e, ih, show (n : Int) + 1 - 1 - 0 = (n : Int) by omega]
    omega
abbrev sok (σ : Int → Int) (p : Int) : Prop := σ (13 + 6 * p + 2) < σ (13 + 6 * p + 1)
theorem rms_c {rm : (Int → Int) → Int → Int → Int} (hr : rmo rm) {n : Int} {σ : Int → Int} (hn : σ 0 = n) (hn0 : 0 ≤ n) (hn2 : n ≤ 16) : ∀ j : Int, 0 ≤ j → j ≤ n → rms rm n σ j 0 = n - it (fun t a => a + bI (sok σ (n - 1 - t))) 0 j ∧ (∀ k : Int, 1 ≤ k → k < 13 + 6 * (n - j) → rms rm n σ j k = σ k) ∧ Emb σ (rms rm n σ j) := by
  intro j j0 j1
  exact it_ind (rmf rm n) σ (fun j st => st 0 = n - it (fun t a => a + bI (sok σ (n - 1 - t))) 0 j ∧ (∀ k : Int, 1 ≤ k → k < 13 + 6 * (n - j) → st k = σ k) ∧ Emb σ st) n ⟨by rw [it_0]; omega, fun k _ _ => rfl, Emb.rf σ⟩ (fun i st i0 i1 hx => by
    obtain ⟨x1, x2, x3⟩ := hx
    have hb := sum_b (fun t => sok σ (n - 1 - t)) i i0
    have e := it_s (fun t a => a + bI (sok σ (n - 1 - t))) 0 i0
    have e : it (fun t a => a + bI (sok σ (n - 1 - t))) 0 (i + 1) = it (fun t a => a + bI (sok σ (n - 1 - t))) 0 i + bI (sok σ (n - 1 - i)) := e
    show rmf rm n i st 0 = n - it (fun t a => a + bI (sok σ (n - 1 - t))) 0 (i + 1) ∧ (∀ k : Int, 1 ≤ k → k < 13 + 6 * (n - (i + 1)) → rmf rm n i st k = σ k) ∧ Emb σ (rmf rm n i st)
    unfold rmf
    have e1 := x2 (13 + 6 * (n - 1 - i) + 1) (by omega) (by omega)
    have e2 := x2 (13 + 6 * (n - 1 - i) + 2) (by omega) (by omega)
    rw [e1, e2, e]
    by_cases c : σ (13 + 6 * (n - 1 - i) + 2) < σ (13 + 6 * (n - 1 - i) + 1)
    · rw [if_pos c, bI_t (show sok σ (n - 1 - i) from c)]
      obtain ⟨y1, y2, -⟩ := hr st (n - 1 - i) (by omega) (by omega) (by omega)
      exact ⟨by omega, fun k k0 k1 => (y2 k k0 (by omega)).trans (x2 k k0 (by omega)), x3.tr (Emb.rm hr (by omega) (by omega) (by omega))⟩
    · rw [if_neg c, bI_f (show ¬ sok σ (n - 1 - i) from c)]
      exact ⟨by omega, fun k k0 k1 => x2 k k0 (by omega), x3⟩) j j0 j1
/-- how many leave -/
def gsm (σ : Int → Int) (d side i : Int) : Int := it (fun p a => a + bI (σ (13 + 6 * p + 2) < wby σ p d side)) 0 i
theorem gsm_s (σ : Int → Int) (d side : Int) {i : Int} (h : 0 ≤ i) : gsm σ d side (i + 1) = gsm σ d side i + bI (σ (13 + 6 * i + 2) < wby σ i d side) := it_s _ _ h
theorem gsm_b (σ : Int → Int) (d side : Int) {n : Int} (hn : 0 ≤ n) : 0 ≤ gsm σ d side n ∧ gsm σ d side n ≤ n := sum_b (fun p => σ (13 + 6 * p + 2) < wby σ p d side) n hn
theorem g8_n (σ : Int → Int) (d side : Int) {k : Int} (h : (k < 14 ∨ 13 + 6 * σ 0 ≤ k ∨ (k - 14) % 6 ≠ 0) ∧ k ≠ 8) : g8 σ d side k = σ k := (up_n _ _ h.2).trans (gw_n σ d side _ h.1)
theorem g8_w (σ : Int → Int) (d side : Int) {q : Int} (h0 : 0 ≤ q) (h1 : q < σ 0) : g8 σ d side (13 + 6 * q + 1) = wby σ q d side := (up_n _ _ (by omega)).trans (gw_y σ d side (σ 0) h0 h1)
/-- what a gust makes of the state -/
theorem gu_E {σ : Int → Int} (h : Jv σ) {d side : Int} (hg : gst d side) (hn : σ 0 ≠ 0) : guA σ d side = gsm σ d side (σ 0) ∧ guW σ d side 0 = σ 0 - gsm σ d side (σ 0) ∧ guW σ d side 3 = σ 3 + gsm σ d side (σ 0) ∧ Emb (g8 σ d side) (guW σ d side) ∧ (∀ k : Int, 1 ≤ k → k < 13 → k ≠ 3 → k ≠ 8 → guW σ d side k = σ k) := by
  obtain ⟨b, f, g⟩ := Iv_iff.mp h.1
  have e0 : g8 σ d side 0 = σ 0 := g8_n σ d side (by omega)
  obtain ⟨r1, r2, r3⟩ := rms_c rmv_o (σ := g8 σ d side) (n := σ 0) e0 b.1 b.2 (σ 0) b.1 (Int.le_refl _)
  have hs : it (fun t a => a + bI (sok (g8 σ d side) (σ 0 - 1 - t))) 0 (σ 0) = gsm σ d side (σ 0) := by
    have hrev := sum_rev (fun p => bI (sok (g8 σ d side) p)) (σ 0).toNat
    rw [show (((σ 0).toNat : Nat) : Int) = σ 0 by omega] at hrev
    refine hrev.trans (it_cong _ _ _ _ (fun p x p0 p1 => ?_))
    have e1 := g8_w σ d side p0 p1
    have e2 : g8 σ d side (13 + 6 * p + 2) = σ (13 + 6 * p + 2) := g8_n σ d side (by omega)
    show x + bI (g8 σ d side (13 + 6 * p + 2) < g8 σ d side (13 + 6 * p + 1)) = x + bI (σ (13 + 6 * p + 2) < wby σ p d side)
    simp only [e1, e2]
  rw [hs] at r1
  have r2 : ∀ k : Int, 1 ≤ k → k < 13 → soA (g8 σ d side) k = g8 σ d side k := fun k k0 k1 => by
    unfold soA; rw [e0]; exact r2 k k0 (by omega)
  have r1 : soA (g8 σ d side) 0 = σ 0 - gsm σ d side (σ 0) := by unfold soA; rw [e0]; exact r1
  have r3 : Emb (g8 σ d side) (soA (g8 σ d side)) := by unfold soA; rw [e0]; exact r3
  have eW : guW σ d side = up (soA (g8 σ d side)) 3 (soA (g8 σ d side) 3 + (g8 σ d side 0 - soA (g8 σ d side) 0)) := by
    unfold guW; rw [if_pos ⟨hg, hn⟩]; rfl
  refine ⟨?_, ?_, ?_, ?_, fun k k0 k1 k3 k8 => ?_⟩
  · unfold guA; rw [if_pos hg, if_neg hn, e0, r1]; omega
  · rw [eW, up_n _ _ (by omega), r1]
  · rw [eW, up_s, e0, r1, r2 3 (by omega) (by omega), g8_n σ d side (k := 3) (by omega)]; omega
  · rw [eW]; exact r3.ups _ (by omega) (by omega)
  · rw [eW, up_n _ _ k3, r2 k k0 k1]; exact g8_n σ d side (by omega)
theorem guW_no {σ : Int → Int} {d side : Int} (h : ¬ (gst d side ∧ σ 0 ≠ 0)) : guW σ d side = σ := if_neg h
theorem gu_J {σ : Int → Int} (h : Jv σ) (d side : Int) : Jv (guW σ d side) ∧ Far σ (guW σ d side) := by
  by_cases c : gst d side ∧ σ 0 ≠ 0
  · obtain ⟨-, e0, e3, hE, el⟩ := gu_E h c.1 c.2
    have hI := guW_I h.1 d side
    have g0 : g8 σ d side 0 = σ 0 := g8_n σ d side (by omega)
    have g1 : g8 σ d side 1 = σ 1 := g8_n σ d side (by omega)
    have gi : ∀ x : Int, 0 ≤ x → x < σ 0 → g8 σ d side (13 + 6 * x + 0) = σ (13 + 6 * x + 0) := fun x x0 x1 => g8_n σ d side (by omega)
    refine ⟨⟨hI, hE.ids (h.2.1.same g0 gi), hE.lt ((el 1 (by omega) (by omega) (by omega) (by omega)).trans g1.symm) (h.2.2.1.same g0 g1 gi), ?_⟩, Far.same (el 4 (by omega) (by omega) (by omega) (by omega)) (el 5 (by omega) (by omega) (by omega) (by omega)) (el 6 (by omega) (by omega) (by omega) (by omega))⟩
    have := h.2.2.2
    unfold Acc at this ⊢
    rw [e0, e3, el 1 (by omega) (by omega) (by omega) (by omega), el 2 (by omega) (by omega) (by omega) (by omega), el 4 (by omega) (by omega) (by omega) (by omega)]
    omega
  · rw [guW_no c]; exact ⟨h, Far.same rfl rfl rfl⟩
/-! where somebody stands -/
theorem plc_c {σ : Int → Int} (x : Int) (h0 : 0 ≤ σ 0) : plc σ x = -5 ∨ (0 ≤ plc σ x ∧ plc σ x < σ 0 ∧ σ (13 + 6 * plc σ x + 0) = x) :=
  it_ind (fun j r => if σ (13 + 6 * (σ 0 - 1 - j) + 0) = x then σ 0 - 1 - j else r) (-5) (fun _ r => r = -5 ∨ (0 ≤ r ∧ r < σ 0 ∧ σ (13 + 6 * r + 0) = x)) (σ 0) (Or.inl rfl) (fun j r j0 j1 hr => by
    show (if σ (13 + 6 * (σ 0 - 1 - j) + 0) = x then σ 0 - 1 - j else r) = -5 ∨ (0 ≤ (if σ (13 + 6 * (σ 0 - 1 - j) + 0) = x then σ 0 - 1 - j else r) ∧ (if σ (13 + 6 * (σ 0 - 1 - j) + 0) = x then σ 0 - 1 - j else r) < σ 0 ∧ σ (13 + 6 * (if σ (13 + 6 * (σ 0 - 1 - j) + 0) = x then σ 0 - 1 - j else r) + 0) = x)
    by_cases c : σ (13 + 6 * (σ 0 - 1 - j) + 0) = x
    · rw [if_pos c]; exact Or.inr ⟨by omega, by omega, c⟩
    · rw [if_neg c]; exact hr) (σ 0) h0 (Int.le_refl _)
theorem id_b {σ : Int → Int} (h : Iv σ) {p : Int} (p0 : 0 ≤ p) (p1 : p < σ 0) : 0 ≤ σ (13 + 6 * p + 0) ∧ σ (13 + 6 * p + 0) ≤ 199 := by
  have := h.2.2.2.2.1 p p0 p1
  omega
theorem plu_in {σ : Int → Int} {x : Int} (h : 0 ≤ x ∧ x ≤ 199) : plu σ x = plc σ x := if_pos h
theorem plu_id {σ : Int → Int} (h : Jv σ) {p : Int} (p0 : 0 ≤ p) (p1 : p < σ 0) : plu σ (σ (13 + 6 * p + 0)) = p := by
  rw [plu_in (id_b h.1 p0 p1)]
  exact plc_at p0 p1 rfl (fun k k0 k1 e => absurd (h.2.1 k p k0 (by omega) p0 p1 e) (by omega))
/-- who is there behind a gust is as wet as was told -/
theorem gu_ok {σ : Int → Int} (h : Jv σ) {d side : Int} (hg : gst d side) {p : Int} (p0 : 0 ≤ p) (p1 : p < σ 0) : plu (guW σ d side) (σ (13 + 6 * p + 0)) = -5 ∨ (0 ≤ plu (guW σ d side) (σ (13 + 6 * p + 0)) ∧ plu (guW σ d side) (σ (13 + 6 * p + 0)) < guW σ d side 0 ∧ guW σ d side (13 + 6 * plu (guW σ d side) (σ (13 + 6 * p + 0)) + 1) = wby σ p d side ∧ wby σ p d side ≤ guW σ d side (13 + 6 * plu (guW σ d side) (σ (13 + 6 * p + 0)) + 2)) := by
  have hn : σ 0 ≠ 0 := by omega
  obtain ⟨-, -, -, hE, -⟩ := gu_E h hg hn
  have hI := guW_I h.1 d side
  rw [plu_in (id_b h.1 p0 p1)]
  rcases plc_c (σ := guW σ d side) (σ (13 + 6 * p + 0)) hI.1.1 with e | ⟨z0, z1, z2⟩
  · exact Or.inl e
  · refine Or.inr ⟨z0, z1, ?_⟩
    generalize plc (guW σ d side) (σ (13 + 6 * p + 0)) = z at z0 z1 z2 ⊢
    obtain ⟨g, a, -⟩ := hE
    obtain ⟨⟨c0, c1⟩, c2⟩ := a z z0 z1
    have g0 : g8 σ d side 0 = σ 0 := g8_n σ d side (by omega)
    rw [g0] at c1
    have e0 := c2 0 (by omega) (by omega)
    rw [z2, g8_n σ d side (by omega)] at e0
    have ep : p = g z := h.2.1 p (g z) p0 p1 c0 c1 e0
    have e1 := c2 1 (by omega) (by omega)
    rw [g8_w σ d side c0 c1, ← ep] at e1
    refine ⟨e1, ?_⟩
    rw [← e1]
    exact hI.2.2.2.2.2.1 z z0 z1
end
section
/-! What is told, and what the law makes of it. -/
theorem psu_k {σ : Int → Int} {p : Int} (h0 : 0 ≤ p) (h1 : p < σ 0) {k : Int} (k0 : 0 ≤ k) (k1 : k ≤ 4) : psu σ p k = σ (13 + 6 * p + k) := by
  unfold psu
  rw [if_pos (by omega), if_neg (by omega), if_neg (by omega), if_neg (by omega), if_neg (by omega), if_pos (by omega)]
theorem psu_5 {σ : Int → Int} {p : Int} (h0 : 0 ≤ p) (h1 : p < σ 0) : psu σ p 5 = if σ (13 + 6 * p + 4) = 0 then -5 else lst σ p := by
  unfold psu; rw [if_pos (by omega), if_pos rfl]
theorem psu_6 {σ : Int → Int} {p : Int} (h0 : 0 ≤ p) (h1 : p < σ 0) : psu σ p 6 = if σ (13 + 6 * p + 4) = 0 then -5 else grt σ p := by
  unfold psu; rw [if_pos (by omega), if_neg (by omega), if_pos rfl]
theorem psu_7 {σ : Int → Int} {p : Int} (h0 : 0 ≤ p) (h1 : p < σ 0) : psu σ p 7 = rch σ p (σ 0) := by
  unfold psu; rw [if_pos (by omega), if_neg (by omega), if_neg (by omega), if_pos rfl]
theorem psu_no {σ : Int → Int} {p : Int} (h : ¬ isp σ p) (k : Int) : psu σ p k = -1 := if_neg h
theorem cnu_k {σ : Int → Int} {kn le k : Int} (k0 : 0 ≤ k) (k1 : k ≤ 9) : cnu σ kn le k = σ k := if_pos ⟨k0, k1⟩
theorem cnu_10 (σ : Int → Int) (kn le : Int) : cnu σ kn le 10 = swf σ (σ 0) := by unfold cnu; rw [if_neg (by omega), if_pos rfl]
theorem cnu_11 (σ : Int → Int) (kn le : Int) : cnu σ kn le 11 = wtu σ := by unfold cnu; rw [if_neg (by omega), if_neg (by omega), if_pos rfl]
theorem cnu_12 (σ : Int → Int) (kn le : Int) : cnu σ kn le 12 = unf σ (σ 0) := by unfold cnu; rw [if_neg (by omega), if_neg (by omega), if_neg (by omega), if_pos rfl]
theorem cnu_14 (σ : Int → Int) (kn le : Int) : cnu σ kn le 14 = σ 11 := by unfold cnu; rw [if_neg (by omega), if_neg (by omega), if_neg (by omega), if_neg (by omega), if_pos (by omega)]; rfl
theorem cnu_15 (σ : Int → Int) (kn le : Int) : cnu σ kn le 15 = σ 12 := by unfold cnu; rw [if_neg (by omega), if_neg (by omega), if_neg (by omega), if_neg (by omega), if_pos (by omega)]; rfl
theorem cnu_16 (σ : Int → Int) (kn le : Int) : cnu σ kn le 16 = kn := by unfold cnu; rw [if_neg (by omega), if_neg (by omega), if_neg (by omega), if_neg (by omega), if_neg (by omega), if_pos rfl]
theorem ifu_in {σ : Int → Int} {p d side wh : Int} (h0 : 0 ≤ p) (h1 : p < σ 0) (hg : gst d side) (w0 : 0 ≤ wh) (w1 : wh ≤ 3) : ifu σ p d side wh = tol σ p d side wh := by
  unfold ifu; rw [if_pos (by omega), if_pos ⟨hg, w0, w1⟩]
theorem ifu_0 {σ : Int → Int} {p d side : Int} (h0 : 0 ≤ p) (h1 : p < σ 0) (hg : gst d side) : ifu σ p d side 0 = bI (cov σ p side) := (ifu_in h0 h1 hg (by omega) (by omega)).trans (if_pos rfl)
theorem ifu_1 {σ : Int → Int} {p d side : Int} (h0 : 0 ≤ p) (h1 : p < σ 0) (hg : gst d side) : ifu σ p d side 1 = rnf σ p (σ 0) := (ifu_in h0 h1 hg (by omega) (by omega)).trans ((if_neg (by omega)).trans (if_pos rfl))
theorem ifu_2 {σ : Int → Int} {p d side : Int} (h0 : 0 ≤ p) (h1 : p < σ 0) (hg : gst d side) : ifu σ p d side 2 = wby σ p d side := (ifu_in h0 h1 hg (by omega) (by omega)).trans ((if_neg (by omega)).trans ((if_neg (by omega)).trans (if_pos rfl)))
theorem ifu_3 {σ : Int → Int} {p d side : Int} (h0 : 0 ≤ p) (h1 : p < σ 0) (hg : gst d side) : ifu σ p d side 3 = bI (σ (13 + 6 * p + 2) < wby σ p d side) := (ifu_in h0 h1 hg (by omega) (by omega)).trans ((if_neg (by omega)).trans ((if_neg (by omega)).trans (if_neg (by omega))))
/-! umbrellas -/
theorem lg_b {σ : Int → Int} (h : Iv σ) {q : Int} (q0 : 0 ≤ q) (q1 : q < σ 0) : 0 ≤ lst σ q ∧ grt σ q < σ 0 ∧ (0 < σ (13 + 6 * q + 4) → lst σ q ≤ q ∧ q ≤ grt σ q) ∧ -3 ≤ lst σ q ∧ lst σ q ≤ 16 ∧ -3 ≤ grt σ q := by
  have := h.1.2.2 q q0 q1
  have := h.1.2.1
  unfold lst grt
  refine ⟨by omega, by omega, fun _ => by omega, by omega, by omega, by omega⟩
theorem rno_iff {σ : Int → Int} (h : Iv σ) {q p : Int} (q0 : 0 ≤ q) (q1 : q < σ 0) : (¬ hit σ q p ∧ (hit σ q (p - 1) ∨ hit σ q (p + 1))) ↔ rno σ q p := by
  have hl := (lg_b h q0 q1).2.2.1
  constructor
  · rintro ⟨a, b⟩
    have a : ¬ (0 < σ (13 + 6 * q + 4) ∧ lst σ q ≤ p ∧ p ≤ grt σ q) := a
    have b : (0 < σ (13 + 6 * q + 4) ∧ lst σ q ≤ p - 1 ∧ p - 1 ≤ grt σ q) ∨ (0 < σ (13 + 6 * q + 4) ∧ lst σ q ≤ p + 1 ∧ p + 1 ≤ grt σ q) := b
    show 0 < σ (13 + 6 * q + 4) ∧ (p = lst σ q - 1 ∨ p = grt σ q + 1)
    omega
  · rintro ⟨a, b⟩
    have := hl a
    show ¬ (0 < σ (13 + 6 * q + 4) ∧ lst σ q ≤ p ∧ p ≤ grt σ q) ∧ ((0 < σ (13 + 6 * q + 4) ∧ lst σ q ≤ p - 1 ∧ p - 1 ≤ grt σ q) ∨ (0 < σ (13 + 6 * q + 4) ∧ lst σ q ≤ p + 1 ∧ p + 1 ≤ grt σ q))
    omega
abbrev cvp (σ : Int → Int) (p side q : Int) : Prop := hit σ q p ∨ (side = 1 ∧ hit σ q (p - 1)) ∨ (side = 2 ∧ hit σ q (p + 1))
def cvs (σ : Int → Int) (p side i : Int) : Int := it (fun q a => a + bI (cvp σ p side q)) 0 i
theorem cvs_s (σ : Int → Int) (p side : Int) {i : Int} (h : 0 ≤ i) : cvs σ p side (i + 1) = cvs σ p side i + bI (cvp σ p side i) := it_s _ _ h
theorem cvs_b (σ : Int → Int) (p side : Int) {n : Int} (hn : 0 ≤ n) : 0 ≤ cvs σ p side n ∧ cvs σ p side n ≤ n := sum_b (fun q => cvp σ p side q) n hn
theorem cvs_cov {σ : Int → Int} (hn : 0 ≤ σ 0) (p side : Int) : 0 < cvs σ p side (σ 0) ↔ cov σ p side := by
  have a := sum_pos (fun q => cvp σ p side q) (σ 0) hn
  have b := fun x : Int => sum_pos (fun q => hit σ q x) (σ 0) hn
  have b : ∀ x : Int, 0 < rch σ x (σ 0) ↔ ∃ q : Int, 0 ≤ q ∧ q < σ 0 ∧ hit σ q x := b
  have a : 0 < cvs σ p side (σ 0) ↔ ∃ q : Int, 0 ≤ q ∧ q < σ 0 ∧ cvp σ p side q := a
  rw [a]
  show _ ↔ 0 < rch σ p (σ 0) ∨ (side = 1 ∧ 0 < rch σ (p - 1) (σ 0)) ∨ (side = 2 ∧ 0 < rch σ (p + 1) (σ 0))
  rw [b, b, b]
  constructor
  · rintro ⟨q, q0, q1, h | ⟨s, h⟩ | ⟨s, h⟩⟩
    · exact Or.inl ⟨q, q0, q1, h⟩
    · exact Or.inr (Or.inl ⟨s, q, q0, q1, h⟩)
    · exact Or.inr (Or.inr ⟨s, q, q0, q1, h⟩)
  · rintro (⟨q, q0, q1, h⟩ | ⟨s, q, q0, q1, h⟩ | ⟨s, q, q0, q1, h⟩)
    · exact ⟨q, q0, q1, Or.inl h⟩
    · exact ⟨q, q0, q1, Or.inr (Or.inl ⟨s, h⟩)⟩
    · exact ⟨q, q0, q1, Or.inr (Or.inr ⟨s, h⟩)⟩
theorem bI_iff {P Q : Prop} [Decidable P] [Decidable Q] (h : P ↔ Q) : bI P = bI Q := by
  by_cases c : P
  · rw [bI_t c, bI_t (h.mp c)]
  · rw [bI_f c, bI_f (fun z => c (h.mpr z))]
theorem hit_5 {σ : Int → Int} (h : Iv σ) {p : Int} (p0 : 0 ≤ p) (p1 : p < σ 0) (hw : σ (13 + 6 * p + 4) ≠ 0) : (psu σ p 5 = lst σ p ∧ psu σ p 6 = grt σ p) ∧ (-3 ≤ lst σ p ∧ lst σ p ≤ 16 ∧ -3 ≤ grt σ p ∧ grt σ p ≤ 16) ∧ hit σ p (psu σ p 5) ∧ hit σ p (psu σ p 6) ∧ ¬ hit σ p (psu σ p 5 - 1) ∧ ¬ hit σ p (psu σ p 6 + 1) := by
  have hq := h.1.2.2 p p0 p1
  have hb := lg_b h p0 p1
  have hl := hb.2.2.1 (by omega)
  have h16 := h.1.2.1
  have e5 : psu σ p 5 = lst σ p := (psu_5 p0 p1).trans (if_neg hw)
  have e6 : psu σ p 6 = grt σ p := (psu_6 p0 p1).trans (if_neg hw)
  rw [e5, e6]
  refine ⟨⟨rfl, rfl⟩, ⟨by omega, by omega, by omega, by omega⟩, ⟨by omega, by omega, by omega⟩, ⟨by omega, by omega, by omega⟩, fun z => ?_, fun z => ?_⟩
  · have := z.2.1; omega
  · have := z.2.2; omega
/-! what somebody bears -/
theorem beu_no {σ : Int → Int} {p d : Int} (p0 : 0 ≤ p) (p1 : p < σ 0) (hd : 1 ≤ d ∧ d ≤ 99) (h : wtr σ p d 0 = 0 ∨ σ (13 + 6 * p + 2) = 999) : beu σ p d = -5 := by
  unfold beu; rw [if_pos (by omega), if_pos hd, if_pos h]
theorem beu_b {σ : Int → Int} (h : Iv σ) {p d : Int} (p0 : 0 ≤ p) (p1 : p < σ 0) (hd : 1 ≤ d ∧ d ≤ 99) (hn : ¬ (wtr σ p d 0 = 0 ∨ σ (13 + 6 * p + 2) = 999)) : (0 ≤ beu σ p d ∧ beu σ p d ≤ 999) ∧ 0 ≤ beu σ p d * wtr σ p d 0 ∧ σ (13 + 6 * p + 1) + beu σ p d * wtr σ p d 0 ≤ σ (13 + 6 * p + 2) ∧ σ (13 + 6 * p + 2) < σ (13 + 6 * p + 1) + (beu σ p d + 1) * wtr σ p d 0 ∧ (beu σ p d + 1) * wtr σ p d 0 ≤ 2000 := by
  have e : beu σ p d = (σ (13 + 6 * p + 2) - σ (13 + 6 * p + 1)) / wtr σ p d 0 := by
    unfold beu; rw [if_pos (by omega), if_pos hd, if_neg hn]
  have hw := wtr_b h.1 p 0 hd.1 hd.2
  have hE := h.2.1 p p0 p1
  have hP := h.2.2.1 p p0 p1
  have hU := h.2.2.2.2.2.1 p p0 p1
  have hpos : 0 < wtr σ p d 0 := by omega
  rw [e]
  generalize σ (13 + 6 * p + 2) = a at *
  generalize σ (13 + 6 * p + 1) = b at *
  generalize wtr σ p d 0 = m at *
  have h1 := Int.ediv_mul_le (a - b) (b := m) (by omega)
  have h2 := Int.lt_ediv_add_one_mul_self (a - b) hpos
  have h3 : 0 ≤ (a - b) / m := Int.ediv_nonneg (by omega) (by omega)
  have h4 : (a - b) / m ≤ a - b := Int.ediv_le_self m (by omega)
  have h5 : 0 ≤ (a - b) / m * m := Int.mul_nonneg h3 (by omega)
  have h6 : ((a - b) / m + 1) * m = (a - b) / m * m + m := by rw [Int.add_mul, Int.one_mul]
  refine ⟨⟨h3, by omega⟩, h5, by omega, by omega, by omega⟩
/-! the wettest, the payer -/
theorem wtt_c (σ : Int → Int) {n : Int} (hn : 0 ≤ n) : (0 ≤ wtt σ n ∧ (wtt σ n < n ∨ n = 0)) ∧ ∀ p : Int, 0 ≤ p → p < n → σ (13 + 6 * p + 1) ≤ σ (13 + 6 * wtt σ n + 1) ∧ (p < wtt σ n → σ (13 + 6 * p + 1) < σ (13 + 6 * wtt σ n + 1)) :=
  it_ind (fun p f => if σ (13 + 6 * f + 1) < σ (13 + 6 * p + 1) then p else f) 0 (fun i f => (0 ≤ f ∧ (f < i ∨ i = 0 ∧ f = 0)) ∧ ∀ p : Int, 0 ≤ p → p < i → σ (13 + 6 * p + 1) ≤ σ (13 + 6 * f + 1) ∧ (p < f → σ (13 + 6 * p + 1) < σ (13 + 6 * f + 1))) n ⟨⟨Int.le_refl 0, Or.inr ⟨rfl, rfl⟩⟩, fun p p0 p1 => absurd p1 (by omega)⟩ (fun i f i0 i1 hx => by
    obtain ⟨⟨f0, f1⟩, f2⟩ := hx
    show (0 ≤ (if σ (13 + 6 * f + 1) < σ (13 + 6 * i + 1) then i else f) ∧ ((if σ (13 + 6 * f + 1) < σ (13 + 6 * i + 1) then i else f) < i + 1 ∨ i + 1 = 0 ∧ (if σ (13 + 6 * f + 1) < σ (13 + 6 * i + 1) then i else f) = 0)) ∧ ∀ p : Int, 0 ≤ p → p < i + 1 → σ (13 + 6 * p + 1) ≤ σ (13 + 6 * (if σ (13 + 6 * f + 1) < σ (13 + 6 * i + 1) then i else f) + 1) ∧ (p < (if σ (13 + 6 * f + 1) < σ (13 + 6 * i + 1) then i else f) → σ (13 + 6 * p + 1) < σ (13 + 6 * (if σ (13 + 6 * f + 1) < σ (13 + 6 * i + 1) then i else f) + 1))
    by_cases c : σ (13 + 6 * f + 1) < σ (13 + 6 * i + 1)
    · rw [if_pos c]
      refine ⟨by omega, fun p p0 p1 => ?_⟩
      by_cases e : p = i
      · subst e; exact ⟨Int.le_refl _, fun z => absurd z (by omega)⟩
      · have := (f2 p p0 (by omega)).1
        exact ⟨by omega, fun _ => by omega⟩
    · rw [if_neg c]
      refine ⟨by omega, fun p p0 p1 => ?_⟩
      by_cases e : p = i
      · subst e; exact ⟨by omega, fun z => absurd z (by omega)⟩
      · exact f2 p p0 (by omega)) n hn (Int.le_refl n) |> fun k => ⟨⟨k.1.1, k.1.2.imp id (fun z => z.1)⟩, k.2⟩
theorem wtu_c {σ : Int → Int} (h : Iv σ) (hn : σ 0 ≠ 0) : wtu σ = wtt σ (σ 0) ∧ (0 ≤ wtu σ ∧ wtu σ < σ 0) ∧ ∀ p : Int, 0 ≤ p → p < σ 0 → σ (13 + 6 * p + 1) ≤ σ (13 + 6 * wtu σ + 1) ∧ (p < wtu σ → σ (13 + 6 * p + 1) < σ (13 + 6 * wtu σ + 1)) := by
  have e : wtu σ = wtt σ (σ 0) := if_neg hn
  have k := wtt_c σ h.1.1
  rw [e]
  exact ⟨rfl, ⟨k.1.1, by have := k.1.2; omega⟩, k.2⟩
theorem wtu_0 {σ : Int → Int} (hn : σ 0 = 0) : wtu σ = -5 := if_pos hn
theorem pyu_0 {σ : Int → Int} (h : Iv σ) (hn : σ 0 ≠ 0) : pyu σ 0 = dri σ (srv σ) ∧ pyu σ 1 = cpd σ ∧ 0 ≤ dri σ (srv σ) ∧ dri σ (srv σ) < srv σ ∧ 1 ≤ srv σ ∧ srv σ ≤ 4 ∧ srv σ ≤ σ 0 ∧ cpd σ = min (σ (13 + 6 * dri σ (srv σ) + 3)) (srv σ * σ 12) ∧ (0 ≤ srv σ * σ 12 ∧ srv σ * σ 12 ≤ 1584) ∧ (0 ≤ σ (13 + 6 * dri σ (srv σ) + 3) ∧ σ (13 + 6 * dri σ (srv σ) + 3) ≤ 9999) := by
  obtain ⟨b, f, g⟩ := Iv_iff.mp h
  have hs := srv_b (σ := σ) (by omega) g.2.2.2.1
  have hd := dri_b σ (n := srv σ) (by omega)
  have hf := far_b (x := srv σ) (d := σ 12) (by omega) (by omega) g.2.2.2.2.1 g.2.2.2.2.2
  have hc := (f (dri σ (srv σ)) (by omega) (by omega)).1.2.2.2.1
  refine ⟨?_, ?_, hd.1, hd.2, hs.1, hs.2.1, hs.2.2, rfl, hf, hc⟩
  · unfold pyu; rw [if_pos (by omega), if_neg hn, if_pos rfl]
  · unfold pyu; rw [if_pos (by omega), if_neg hn, if_neg (by omega)]
theorem pyu_e {σ : Int → Int} (hn : σ 0 = 0) (wh : Int) (h : 0 ≤ wh ∧ wh ≤ 1) : pyu σ wh = -5 := by
  unfold pyu; rw [if_pos h, if_pos hn]
/-! the best swap -/
theorem awb_sw {σ : Int → Int} {p : Int} (p0 : 0 ≤ p) (d side : Int) : awb (sw3 σ p) d side = awb (xch σ p 4) d side := by
  have e0 : sw3 σ p 0 = xch σ p 4 0 := by
    rw [sw3_n σ (by omega) (by omega) (by omega) (by omega) (by omega), xch_lo σ p0 (by omega) (by omega)]
  have ej : ∀ j : Int, j ≠ 13 + 6 * p + 5 → j ≠ 13 + 6 * (p + 1) + 5 → j ≠ 7 → sw3 σ p j = xch σ p 4 j := fun j h1 h2 h3 => by
    unfold sw3 sw2 sw1
    rw [up_n _ _ h3, up_n _ _ h2, up_n _ _ h1]
  unfold awb
  rw [e0]
  unfold awf
  refine it_cong _ _ _ _ (fun q x q0 q1 => ?_)
  have := wby_cong (σ := sw3 σ p) (σ' := xch σ p 4) e0 (fun y _ _ => ej _ (by omega) (by omega) (by omega)) (p := q) (ej _ (by omega) (by omega) (by omega)) d side
  show x + wby (sw3 σ p) q d side = x + wby (xch σ p 4) q d side
  rw [this]
theorem reu_in {σ : Int → Int} {p : Int} (h : pair σ p) : reu σ p = why σ p := if_pos h
theorem swu_in {σ : Int → Int} {p : Int} (h : pair σ p) : swu σ p = if 0 < why σ p then -10 - why σ p else σ (13 + 6 * (p + 1) + 4) := by
  unfold swu
  rw [if_pos h]
  by_cases c : 0 < why σ p
  · rw [if_pos c, if_pos c]
  · rw [if_neg c, if_neg c, sw3_w σ h.1 h.1, if_neg (by omega), if_pos rfl]
theorem bsu_in {σ : Int → Int} {d side : Int} (h : gst d side) : bsu σ d side = (bsl σ d side (σ 0 - 1)).1 := if_pos h
end
section
/-! The law's walk: its own rows. -/
def lowm (x : Int) : Int := (jj x &&& jj 2147483647).toInt
def lowv (x n : Int) : Int := lowm x % n
theorem jj_ofNat (n : Nat) : Int32.ofNat n = jj (n : Int) := by
  unfold jj
  first
  | rfl
  | simp
  | (apply Int32.toBitVec_inj.mp; simp)
theorem lowm_b (x : Int) : 0 ≤ lowm x ∧ lowm x ≤ 2147483647 := by
  obtain ⟨j, hj, ej⟩ := pk_andE (jj x) (m := jj 2147483647) 31 (by decide +kernel)
  unfold lowm
  rw [ej, show nI j = jj (j : Int) from jj_ofNat j, jj_toInt (by omega) (by omega)]
  omega
theorem lowv_b (x : Int) {n : Int} (hn : 0 < n) : 0 ≤ lowv x n ∧ lowv x n < n := ⟨Int.emod_nonneg _ (by omega), Int.emod_lt_of_pos _ hn⟩
theorem low_e {m n : Int} (h0 : 0 ≤ m) (h1 : m ≤ 2147483647) (hn : 0 < n) (hn2 : n ≤ 2147483647) : jj m - jj m / jj n * jj n = jj (m % n) := by
  rw [jj_div h0 h1 hn hn2, jj_mul, jj_sub, Int.emod_def, Int.mul_comm]
def shv (x : Int) : Int := (jj x >>> (jj 8 &&& 31)).toInt
def shw (x : Int) : Int := (jj x >>> (jj 6 &&& 31)).toInt
/-- a contract that makes objects: cells and slots -/
def Kj (l : Launch) (y : MethodName) (ws : List Cond) (rm : Room) (D : va_G) (tys : List (ClassId × FieldType)) (av : List Value) (w0 : va_W) (ev : Int) (w1 : va_W) (mc ms : Nat) : Prop :=
  ∀ sz : Nat, Met l y ws rm (va_Pc av (pW D tys sz w0)) (Qi D tys ev w1 (va_A w0 sz)) mc ms (va_A w0 sz)
def Fj (y : MethodName) (ws : List Cond) (rm : Room) (bytes : ByteArray) (nL : Nat) (ret : Option FieldType) (n mc ms : Nat) : Prop :=
  (∃ ws', ws = Cond.code y bytes nL ret :: ws') ∧ rm.cells = mc ∧ rm.slots = ms ∧ y.cls ≠ "java/lang/invoke/MethodHandle" ∧ y.cls ≠ "java/lang/invoke/VarHandle" ∧ (parseMethodDescriptor y.desc).map (fun d => d.parameters.length) = some n
theorem wd_l {D : va_G} {A : Nat → Prop} {s : State} {a b : va_W} {H : Heap} {locs : List Loc} (w : Wd D A s (a ++ b) H locs) : Wd D A s a H locs := by
  refine ⟨vP_l w.1, ?_, w.2.2⟩
  have h := vD_iff.mp w.2.1
  exact vD_iff.mpr ⟨(List.pairwise_append.mp h.1).1, fun q hq => h.2 q (List.mem_append_left _ hq)⟩
section QK
variable {p : Program} {l : Launch} {e : Env} {R : Room} {s : State} {m : MethodId} {args : Array Value} {below : List Frame} {meth : Method} {c : Code} {H : Heap} {locs : List Loc} {cells slots : Nat} {Q : State → Prop}
variable {cc : ByteArray} {nL : Nat} {own : String} {Ts : List Cond} {D : va_G} {tys : List (ClassId × FieldType)} {A : Nat → Prop} {ret : Option FieldType} {pc : Nat} {ls : Array Slot} {rest : List Value} {ws wc w1 ws' : va_W}
theorem q_icmpE {x y : Int} {off : Int} {tgt : Nat} (C : Cx p s m args meth c cc nL own Ts D tys A ret) (hdg : decode cc pc = .ok (.if_icmp .eq off, 3)) (ht : (pc : Int) + off = (tgt : Int)) (he : x = y)
    (kt : W p l e R s m args below meth c H locs cells slots Q (F0 m tgt ls rest)) : W p l e R s m args below meth c H locs cells slots Q (F0 m pc ls (.int (jj y) :: .int (jj x) :: rest)) :=
  lv_icmp_eq C.1 C.2.1 hdg ht (fun _ => kt) (fun h => absurd (congrArg jj he) h)
theorem q_icmpN {x y : Int} {off : Int} {tgt : Nat} (C : Cx p s m args meth c cc nL own Ts D tys A ret) (hdg : decode cc pc = .ok (.if_icmp .ne off, 3)) (ht : (pc : Int) + off = (tgt : Int)) (he : x = y)
    (kf : W p l e R s m args below meth c H locs cells slots Q (F0 m (pc + 3) ls rest)) : W p l e R s m args below meth c H locs cells slots Q (F0 m pc ls (.int (jj y) :: .int (jj x) :: rest)) :=
  lv_icmp_ne C.1 C.2.1 hdg ht (fun h => absurd (congrArg jj he) h) (fun _ => kf)
theorem q_shv {x : Int} (C : Cx p s m args meth c cc nL own Ts D tys A ret) (hdg : decode cc pc = .ok (.ishr, 1)) (kk : W p l e R s m args below meth c H locs cells slots Q (F0 m (pc + 1) ls (.int (jj (shv x)) :: rest))) : W p l e R s m args below meth c H locs cells slots Q (F0 m pc ls (.int (jj 8) :: .int (jj x) :: rest)) :=
  lv_ishr C.1 C.2.1 hdg (by rw [show jj x >>> (jj 8 &&& 31) = jj (shv x) from (jj_of _).symm]; exact kk)
theorem q_shw {x : Int} (C : Cx p s m args meth c cc nL own Ts D tys A ret) (hdg : decode cc pc = .ok (.ishr, 1)) (kk : W p l e R s m args below meth c H locs cells slots Q (F0 m (pc + 1) ls (.int (jj (shw x)) :: rest))) : W p l e R s m args below meth c H locs cells slots Q (F0 m pc ls (.int (jj 6) :: .int (jj x) :: rest)) :=
  lv_ishr C.1 C.2.1 hdg (by rw [show jj x >>> (jj 6 &&& 31) = jj (shw x) from (jj_of _).symm]; exact kk)
theorem q_irem {a b : Int} (C : Cx p s m args meth c cc nL own Ts D tys A ret) (hdg : decode cc pc = .ok (.irem, 1)) (ha : 0 ≤ a ∧ a ≤ 2147483647) (hb : 0 < b ∧ b ≤ 2147483647) (kk : W p l e R s m args below meth c H locs cells slots Q (F0 m (pc + 1) ls (.int (jj (a % b)) :: rest))) : W p l e R s m args below meth c H locs cells slots Q (F0 m pc ls (.int (jj b) :: .int (jj a) :: rest)) :=
  lv_irem C.1 C.2.1 hdg (fun h => by
    have h2 : jj b = jj 0 := h
    rw [jj_inj (by omega) (by omega) (by omega) (by omega)] at h2
    omega) (by rw [low_e ha.1 ha.2 hb.1 hb.2]; exact kk)
theorem q_runj {ev : Int} {mc ms : Nat} {st0 : List Value} {a : Array Value} (C : Cx p s m args meth c cc nL own Ts D tys A ret) (w : Wd D A s ws H locs) (fr : Fr ws wc w1 ws')
    (hr : va_Run p l e R s m args below meth c H locs cells slots mc ms (F0 m pc ls st0) rest (Qi D tys ev w1 (va_A wc H.size) a) (va_A wc H.size))
    (kk : ∀ (H1 : Heap) (locs1 : List Loc), Wd D A s ws' H1 locs1 → W p l e R s m args below meth c H1 locs1 (cells + mc) (slots + ms) Q (F0 m (pc + 3) ls (.int (jj ev) :: rest))) : W p l e R s m args below meth c H locs cells slots Q (F0 m pc ls st0) := by
  have hF := fr_F fr w.2.1 w.2.2 C.hA
  refine va_calli hr w.2.2 (fun q _ h => hF q h) hF (fun r u t H1 locs1 ht hvm hpost hB hz hk hS => ?_)
  subst hpost
  obtain ⟨hP1, -, hD1⟩ := hB
  rw [ht] at hP1
  exact kk H1 locs1 (wd_frame fr w C.hA hk hP1 hD1 hS)
theorem q_Sj {y : MethodName} {wy : List Cond} {rm : Room} {bytes : ByteArray} {maxL n index mc ms : Nat} {retY : Option FieldType} {As : List Value} {Qc : Array Value → State → Outcome → State → Prop} {fr1 : Nat → Prop}
    (C : Cx p s m args meth c cc nL own Ts D tys A ret) (w : Wd D A s ws H locs) (fr : Fr ws wc wc ws) (F : Fj y wy rm bytes maxL retY n mc ms) (hG : GoodIn Ts (va_wsS own index y wy))
    (hR : rm.frames + 1 ≤ R.frames ∧ 8 + (maxL + 11) + rm.locals ≤ R.locals) (hM : Met l y wy rm (va_Pc As (pW D tys H.size wc)) Qc mc ms fr1)
    (hn : As.length = n) {st : List Value} (hst : st = As.reverse ++ rest) {lv : List (Nat × Value)} (hl : lv_has ls nL lv) (hcat : (rest.map fun v => v.category).sum ≤ 8) (hdg : decode cc pc = .ok (.invokestatic index, 3)) (hcs : cells + mc ≤ R.cells ∧ slots + ms ≤ R.slots) :
    va_Run p l e R s m args below meth c H locs cells slots mc ms (F0 m pc ls st) rest (Qc As.toArray) fr1 := by
  obtain ⟨⟨wy', hwy⟩, hrc, hrs, hd⟩ := F
  exact va_runS (As := As) (rest := rest) C.fix hM (va_cwS n C.ts hG hwy hrc hrs hd hR) ⟨pre_blind, pre_here C w fr⟩ rfl hn hl.1 hst (lv_room hcat) hdg hcs
theorem q_iretj {ev v : Int} {mc ms : Nat} (C : Cx p s m args meth c cc nL own Ts D tys A (some .int)) (w : Wd D A s ws H locs) (hm : cells ≤ mc) (hs : slots ≤ ms) (hdg : decode cc pc = .ok (.ireturn, 1)) (hv : v = ev) (hw : ws = w1) :
    W p l e R s m args below meth c H locs cells slots (MQ below (Qi D tys ev w1 A) args s mc ms A) (F0 m pc ls [.int (jj v)]) := by
  subst hv; subst hw
  have hlocks := C.locks
  refine W.widen (k := mc) (n := ms) hm hs ?_
  exact W.iret (v := jj v) C.1 C.2.1 C.hr (fun t ht hW => ⟨⟨jj v, (), rfl, rfl, (end_w C w t ht hW).1⟩, (end_w C w t ht hW).2⟩) w.2.2.2.2 hdg
end QK
def rL_low : Room := { frames := 0, cells := 0, slots := 0, locals := 0 }
theorem fL_low : Fc yL_low wsL_low rL_low cL_low 2 (some .int) 2 := ⟨⟨_, rfl⟩, rfl, rfl, by decide +kernel, by decide +kernel, by decide +kernel⟩
theorem kL_low (l : Launch) (D : va_G) (cI cC cS : ClassId) (x n : Int) (hn : 0 < n ∧ n ≤ 2147483647) : Ki l yL_low wsL_low rL_low D (tz cI cC cS) [.int (jj x), .int (jj n)] [] (lowv x n) [] := by
  refine q_entry (cc := cL_low) (nL := 2) (ret := (some .int)) (by decide) ⟨_, rfl⟩ (Nat.le_of_ble_eq_true rfl) ?_
  intro A pr en s m args below meth c C hin w ls hl
  have w := w
  have hl : lv_has ls 2 [(0, .int (jj x)), (1, .int (jj n))] := hl
  have hm := lowm_b x
  refine q_iload_n C hl dL_low_0 rfl 0 rfl ?_
  refine lv_ldc (v := jj 2147483647) C.1 C.2.1 C.ho (C.ts _ (List.mem_of_getElem? (i := 1) rfl)) dL_low_1 ?_
  refine lv_iand C.1 C.2.1 dL_low_3 ?_
  rw [show jj x &&& jj 2147483647 = jj (lowm x) from (jj_of _).symm]
  refine q_iload_n C hl dL_low_4 rfl 1 rfl ?_
  refine q_irem C dL_low_5 hm hn ?_
  exact q_iret C w dL_low_6 rfl rfl
theorem hit_iff {σ : Int → Int} {q p : Int} (q0 : 0 ≤ q) (q1 : q < σ 0) : hit σ q p ↔ 0 < σ (13 + 6 * q + 4) ∧ 0 ≤ p ∧ p < σ 0 ∧ q - σ (13 + 6 * q + 4) / 2 ≤ p ∧ p ≤ q + (σ (13 + 6 * q + 4) - 1) / 2 := by
  show (0 < σ (13 + 6 * q + 4) ∧ lst σ q ≤ p ∧ p ≤ grt σ q) ↔ _
  unfold lst grt
  constructor <;> intro h <;> omega
theorem wtu_d {σ : Int → Int} (h : Iv σ) : (σ 0 = 0 ∧ wtu σ = -5) ∨ (σ 0 ≠ 0 ∧ 0 ≤ wtu σ ∧ wtu σ < σ 0) := by
  by_cases c : σ 0 = 0
  · exact Or.inl ⟨c, wtu_0 c⟩
  · have := (wtu_c h c).2.1
    exact Or.inr ⟨c, this.1, this.2⟩
theorem it_end {α : Type} (f : Int → α → α) (a : α) {i n : Int} (h : i = n - 1 ∨ (i = 0 ∧ n = 0)) : it f a (n - 1) = it f a i := by
  rcases h with rfl | ⟨rfl, rfl⟩
  · rfl
  · rw [it_z f a (by omega), it_0]
/-! the history through the swaps that are taken back -/
abbrev H4 : Type := (Nat → Nat) × (Nat → Nat → Nat) × (Nat → Int → Int) × Int
def hstep (σ : Int → Int) (p : Int) (x : H4) : H4 := if swu σ p < 0 then (rcH (swu σ p) x.2.2.2 x.1, rcH (swu σ p) x.2.2.2 x.2.1, rcH (swu σ p) x.2.2.2 (upN x.2.2.1 x.2.2.2.toNat σ), rcP (swu σ p) x.2.2.2) else (rcH (swu σ p) x.2.2.2 x.1, rcH (swu σ p) x.2.2.2 x.2.1, rcH (swu σ p) x.2.2.2 (upN x.2.2.1 x.2.2.2.toNat σ), if rcP (swu σ p) x.2.2.2 = 0 then 0 else rcP (swu σ p) x.2.2.2 - 1)
def hbs (σ : Int → Int) (hs : Nat → Nat) (ha : Nat → Nat → Nat) (η : Nat → Int → Int) (dp : Int) (i : Int) : H4 := it (hstep σ) (hs, ha, η, dp) i
theorem hbs_s (σ : Int → Int) (hs : Nat → Nat) (ha : Nat → Nat → Nat) (η : Nat → Int → Int) (dp : Int) {i : Int} (h : 0 ≤ i) : hbs σ hs ha η dp (i + 1) = hstep σ i (hbs σ hs ha η dp i) := it_s _ _ h
theorem und_e {σ τ : Int → Int} {η : Nat → Int → Int} {v dp : Int} (hv : 0 ≤ v) (hd : 0 ≤ dp ∧ dp ≤ 4) : (if rcP v dp = 0 then τ else (rcH v dp (upN η dp.toNat σ)) (rcP v dp - 1).toNat) = σ := by
  unfold rcP rcH kh kdp
  rw [if_pos hv, if_pos hv]
  by_cases c : dp < 4
  · rw [if_pos c, if_pos c, if_neg (by omega), show (dp + 1 - 1).toNat = dp.toNat by omega]
    exact if_pos rfl
  · have e : dp = 4 := by omega
    subst e
    rw [if_neg (by omega), if_neg (by omega), if_neg (by omega)]
    rfl
end
section
/-! an act by three numbers -/
def acU (σ : Int → Int) (kd a b : Int) : Int := if kd ≤ 4 then comu σ (8 + lowv a 300) (lowv b 40) (lowv (shw b) 7) else if kd = 5 then levu σ (lowv a (σ 0 + 1)) else if kd = 6 then ltu σ (lowv a (σ 0 + 1)) else if kd ≤ 9 then swu σ (lowv a (σ 0 + 1)) else if kd = 10 then setu σ (lowv a 4) (lowv b 20) else if kd = 11 then seu σ else if kd = 12 then pu2 σ (lowv a 9) else guA σ (1 + lowv a 60) (lowv b 3)
def acV (σ : Int → Int) (kd a b : Int) : Int → Int := if kd ≤ 4 then comW σ (8 + lowv a 300) (lowv b 40) (lowv (shw b) 7) else if kd = 5 then levW σ (lowv a (σ 0 + 1)) else if kd = 6 then ltv σ (lowv a (σ 0 + 1)) else if kd ≤ 9 then swv σ (lowv a (σ 0 + 1)) else if kd = 10 then setv σ (lowv a 4) (lowv b 20) else if kd = 11 then sevW σ else if kd = 12 then pvW σ (lowv a 9) else guW σ (1 + lowv a 60) (lowv b 3)
theorem comu_b {σ : Int → Int} (h : Iv σ) (pa co wi : Int) : -3 ≤ comu σ pa co wi ∧ comu σ pa co wi ≤ 16 := by
  have := (Iv_iff.mp h).1
  unfold comu; (repeat' split) <;> omega
theorem levu_b {σ : Int → Int} (h : Iv σ) (p : Int) : -1 ≤ levu σ p ∧ levu σ p ≤ 999 := by
  obtain ⟨b, f, g⟩ := Iv_iff.mp h
  unfold levu
  split
  · next c => have := (f p c.1 (by omega)).1.2.1; omega
  · omega
theorem ltu_b {σ : Int → Int} (h : Iv σ) (p : Int) : -1 ≤ ltu σ p ∧ ltu σ p ≤ 200 := by
  obtain ⟨b, f, g⟩ := Iv_iff.mp h
  unfold ltu
  split
  · next c => have := (f (p + 1) (by omega) (by omega)).1.2.2.2.2; omega
  · omega
theorem setu_b {σ : Int → Int} (h : Iv σ) (wh v : Int) : -5 ≤ setu σ wh v ∧ setu σ wh v ≤ 99 := by
  obtain ⟨b, f, g⟩ := Iv_iff.mp h
  unfold setu
  by_cases c : 0 ≤ wh ∧ wh ≤ 2
  · have := stg_b (σ := σ) g.2.2.1 g.2.2.2.1 g.2.2.2.2 c.1 c.2
    (repeat' split) <;> omega
  · rw [if_neg c]; omega
theorem acU_b {σ : Int → Int} (h : Iv σ) (kd a b : Int) : -13 ≤ acU σ kd a b ∧ acU σ kd a b ≤ 9999 := by
  have h1 := comu_b h (8 + lowv a 300) (lowv b 40) (lowv (shw b) 7)
  have h2 := levu_b h (lowv a (σ 0 + 1))
  have h3 := ltu_b h (lowv a (σ 0 + 1))
  have h4 := swu_b h (lowv a (σ 0 + 1))
  have h5 := setu_b h (lowv a 4) (lowv b 20)
  have h6 := seu_b h
  have h7 := pu2_b h (lowv a 9)
  have h8 := guA_b h (1 + lowv a 60) (lowv b 3)
  unfold acU
  (repeat' split) <;> omega
theorem acV_J {σ : Int → Int} (h : Jv σ) (kd a b : Int) : Jv (acV σ kd a b) ∧ Far σ (acV σ kd a b) := by
  unfold acV
  split
  · exact com_J h _ _ _
  split
  · exact lev_J h _
  split
  · exact lt_J h _
  split
  · exact sw_J h _
  split
  · exact set_J h _ _
  split
  · exact sev_J h
  split
  · exact pv_J h _
  · exact gu_J h _ _
theorem acU_11 {σ : Int → Int} (h : Iv σ) (a b : Int) : acU σ 11 a b = pyu σ 1 := by
  have e : acU σ 11 a b = seu σ := by
    unfold acU
    rw [if_neg (by omega), if_neg (by omega), if_neg (by omega), if_neg (by omega), if_neg (by omega), if_pos rfl]
  rw [e]
  by_cases c : σ 0 = 0
  · rw [pyu_e c 1 (by omega)]; exact if_pos c
  · rw [(pyu_0 h c).2.1]; exact if_neg c
end
