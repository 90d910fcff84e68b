/-! The law's cases. -/
set_option maxHeartbeats 4000000 in
set_option maxRecDepth 10000 in
theorem law_come {p : Program} {l : Launch} {e : Env} {s : State} {m : MethodId} {args : Array Value} {below : List Frame} {meth : Method} {c : Code} {H : Heap} {locs : List Loc} {cells slots : Nat} {Q : State → Prop} {D : va_G} {cI cC cS : ClassId} {ls : Array Slot} {b L x y : Nat} {xs : Nat → Int32} {i : Int} (C : Cx p s m args meth c cL_law 4 RL wsL_law D (tz cI cC cS) (fun a => s.heap.size ≤ a) ret) (hX : va_X b L xs s s.heap) (hbl : b < s.heap.size) (hL : L ≤ 2560) (hi : 0 ≤ i ∧ i + 5 ≤ L) (hcs : cells ≤ room_1.cells ∧ slots ≤ room_1.slots) (hl : lv_has ls 4 [(3, .int (jj i)), (2, .ref y), (1, .ref x), (0, .ref b)]) (h : LH D cI cC cS s x y H locs) (kk : ∀ (H : Heap) (locs : List Loc), LH D cI cC cS s x y H locs → W p l e room_1 s m args below meth c H locs cells slots Q (F0 m 711 ls [])) : W p l e room_1 s m args below meth c H locs cells slots Q (F0 m 140 ls []) := by
  obtain ⟨hn, adn, hsn, ads, hh, har, hw, adw, σ, ς, hs, ha, η, dp, τ, kd, am, sd, q, u, ad, σB, α, ςB, β, qB, R, w⟩ := h
  refine q_aload_n C hl dL_law_140 rfl 2 rfl ?_
  refine q_aload_n C hl dL_law_141 rfl 3 rfl ?_
  refine q_iload_n C hl dL_law_142 rfl 0 rfl ?_
  refine q_iconst C dL_law_143 ?_
  refine q_iadd C dL_law_144 ?_
  refine q_sc (j := i + 1) C w hX hbl ⟨by omega, by omega⟩ hL dL_law_145 ?_
  refine q_aload_n C hl dL_law_146 rfl 3 rfl ?_
  refine q_iload_n C hl dL_law_147 rfl 0 rfl ?_
  refine q_iconst C dL_law_148 ?_
  refine q_iadd C dL_law_149 ?_
  refine q_sc (j := i + 2) C w hX hbl ⟨by omega, by omega⟩ hL dL_law_150 ?_
  refine q_aload_n C hl dL_law_151 rfl 3 rfl ?_
  refine q_iload_n C hl dL_law_152 rfl 0 rfl ?_
  refine q_iconst C dL_law_153 ?_
  refine q_iadd C dL_law_154 ?_
  refine q_sc (j := i + 3) C w hX hbl ⟨by omega, by omega⟩ hL dL_law_155 ?_
  refine q_runi C w fr_hd (q_V (As := [.int (jj (Xs xs (i + 1))), .int (jj (Xs xs (i + 2))), .int (jj (Xs xs (i + 3)))]) (rest := []) C w fr_hd fX3_come gL_law_X3_come rfl ⟨Nat.le_of_ble_eq_true rfl, Nat.le_of_ble_eq_true rfl⟩ (kX3_come l D cI cC cS x hn adn hsn ads hh har hw adw σ ς hs ha η dp τ kd am sd q u (Xs xs (i + 1)) (Xs xs (i + 2)) (Xs xs (i + 3)) R.ia R.dd (Xs_b xs _) (Xs_b xs _) (Xs_b xs _) (comu_b R.ia _ _ _) _) (q0 := 0) rfl rfl rfl rfl hl (Nat.le_of_ble_eq_true rfl) dL_law_156 hcs) (fun H locs w => ?_)
  refine q_aload_n C hl dL_law_159 rfl 1 rfl ?_
  refine q_aload_n C hl dL_law_160 rfl 3 rfl ?_
  refine q_iload_n C hl dL_law_161 rfl 0 rfl ?_
  refine q_iconst C dL_law_162 ?_
  refine q_iadd C dL_law_163 ?_
  refine q_sc (j := i + 1) C w hX hbl ⟨by omega, by omega⟩ hL dL_law_164 ?_
  refine q_aload_n C hl dL_law_165 rfl 3 rfl ?_
  refine q_iload_n C hl dL_law_166 rfl 0 rfl ?_
  refine q_iconst C dL_law_167 ?_
  refine q_iadd C dL_law_168 ?_
  refine q_sc (j := i + 2) C w hX hbl ⟨by omega, by omega⟩ hL dL_law_169 ?_
  refine q_aload_n C hl dL_law_170 rfl 3 rfl ?_
  refine q_iload_n C hl dL_law_171 rfl 0 rfl ?_
  refine q_iconst C dL_law_172 ?_
  refine q_iadd C dL_law_173 ?_
  refine q_sc (j := i + 3) C w hX hbl ⟨by omega, by omega⟩ hL dL_law_174 ?_
  refine q_runi C w fr_tl (q_V (As := [.int (jj (Xs xs (i + 1))), .int (jj (Xs xs (i + 2))), .int (jj (Xs xs (i + 3)))]) (rest := _ :: []) C w fr_tl fX4_come gL_law_X4_come rfl ⟨Nat.le_of_ble_eq_true rfl, Nat.le_of_ble_eq_true rfl⟩ (kX4_come l D cI cC cS y ad σB α ςB β τ qB (Xs xs (i + 1)) (Xs xs (i + 2)) (Xs xs (i + 3)) R.ib R.b5 (Xs_b xs _) (Xs_b xs _) (Xs_b xs _) _) (q0 := 0) rfl rfl rfl rfl hl (Nat.le_of_ble_eq_true rfl) dL_law_175 hcs) (fun H locs w => ?_)
  refine q_icmpE (tgt := 711) C dL_law_178 (by decide) (ag_comu R.ag _ _ _) ?_
  refine kk _ _ (LH.mk w ?_)
  rw [ag_comu R.ag _ _ _]
  exact R.act (ag_comv R.ag _ _ _) (com_I R.ib _ _ _)
set_option maxHeartbeats 4000000 in
set_option maxRecDepth 10000 in
theorem law_leave {p : Program} {l : Launch} {e : Env} {s : State} {m : MethodId} {args : Array Value} {below : List Frame} {meth : Method} {c : Code} {H : Heap} {locs : List Loc} {cells slots : Nat} {Q : State → Prop} {D : va_G} {cI cC cS : ClassId} {ls : Array Slot} {b L x y : Nat} {xs : Nat → Int32} {i : Int} (C : Cx p s m args meth c cL_law 4 RL wsL_law D (tz cI cC cS) (fun a => s.heap.size ≤ a) ret) (hX : va_X b L xs s s.heap) (hbl : b < s.heap.size) (hL : L ≤ 2560) (hi : 0 ≤ i ∧ i + 5 ≤ L) (hcs : cells ≤ room_1.cells ∧ slots ≤ room_1.slots) (hl : lv_has ls 4 [(3, .int (jj i)), (2, .ref y), (1, .ref x), (0, .ref b)]) (h : LH D cI cC cS s x y H locs) (kk : ∀ (H : Heap) (locs : List Loc), LH D cI cC cS s x y H locs → W p l e room_1 s m args below meth c H locs cells slots Q (F0 m 711 ls [])) : W p l e room_1 s m args below meth c H locs cells slots Q (F0 m 183 ls []) := by
  obtain ⟨hn, adn, hsn, ads, hh, har, hw, adw, σ, ς, hs, ha, η, dp, τ, kd, am, sd, q, u, ad, σB, α, ςB, β, qB, R, w⟩ := h
  refine q_aload_n C hl dL_law_183 rfl 2 rfl ?_
  refine q_aload_n C hl dL_law_184 rfl 3 rfl ?_
  refine q_iload_n C hl dL_law_185 rfl 0 rfl ?_
  refine q_iconst C dL_law_186 ?_
  refine q_iadd C dL_law_187 ?_
  refine q_sc (j := i + 1) C w hX hbl ⟨by omega, by omega⟩ hL dL_law_188 ?_
  refine q_runi C w fr_hd (q_V (As := [.int (jj (Xs xs (i + 1)))]) (rest := []) C w fr_hd fX3_leave gL_law_X3_leave rfl ⟨Nat.le_of_ble_eq_true rfl, Nat.le_of_ble_eq_true rfl⟩ (kX3_leave l D cI cC cS x hn adn hsn ads hh har hw adw σ ς hs ha η dp τ kd am sd q u (Xs xs (i + 1)) R.ia R.dd (Xs_b xs _) (levu_b R.ia _) _) (q0 := 0) rfl rfl rfl rfl hl (Nat.le_of_ble_eq_true rfl) dL_law_189 hcs) (fun H locs w => ?_)
  refine q_aload_n C hl dL_law_192 rfl 1 rfl ?_
  refine q_aload_n C hl dL_law_193 rfl 3 rfl ?_
  refine q_iload_n C hl dL_law_194 rfl 0 rfl ?_
  refine q_iconst C dL_law_195 ?_
  refine q_iadd C dL_law_196 ?_
  refine q_sc (j := i + 1) C w hX hbl ⟨by omega, by omega⟩ hL dL_law_197 ?_
  refine q_runi C w fr_tl (q_V (As := [.int (jj (Xs xs (i + 1)))]) (rest := _ :: []) C w fr_tl fX4_leave gL_law_X4_leave rfl ⟨Nat.le_of_ble_eq_true rfl, Nat.le_of_ble_eq_true rfl⟩ (kX4_leave l D cI cC cS y ad σB α ςB β τ qB (Xs xs (i + 1)) R.ib R.b5 (Xs_b xs _) _) (q0 := 0) rfl rfl rfl rfl hl (Nat.le_of_ble_eq_true rfl) dL_law_198 hcs) (fun H locs w => ?_)
  refine q_icmpE (tgt := 711) C dL_law_201 (by decide) (ag_levu R.ag _) ?_
  refine kk _ _ (LH.mk w ?_)
  rw [ag_levu R.ag _]
  exact R.act (ag_levv R.ag _) (lev_I R.ib _)
set_option maxHeartbeats 4000000 in
set_option maxRecDepth 10000 in
theorem law_letAhead {p : Program} {l : Launch} {e : Env} {s : State} {m : MethodId} {args : Array Value} {below : List Frame} {meth : Method} {c : Code} {H : Heap} {locs : List Loc} {cells slots : Nat} {Q : State → Prop} {D : va_G} {cI cC cS : ClassId} {ls : Array Slot} {b L x y : Nat} {xs : Nat → Int32} {i : Int} (C : Cx p s m args meth c cL_law 4 RL wsL_law D (tz cI cC cS) (fun a => s.heap.size ≤ a) ret) (hX : va_X b L xs s s.heap) (hbl : b < s.heap.size) (hL : L ≤ 2560) (hi : 0 ≤ i ∧ i + 5 ≤ L) (hcs : cells ≤ room_1.cells ∧ slots ≤ room_1.slots) (hl : lv_has ls 4 [(3, .int (jj i)), (2, .ref y), (1, .ref x), (0, .ref b)]) (h : LH D cI cC cS s x y H locs) (kk : ∀ (H : Heap) (locs : List Loc), LH D cI cC cS s x y H locs → W p l e room_1 s m args below meth c H locs cells slots Q (F0 m 711 ls [])) : W p l e room_1 s m args below meth c H locs cells slots Q (F0 m 206 ls []) := by
  obtain ⟨hn, adn, hsn, ads, hh, har, hw, adw, σ, ς, hs, ha, η, dp, τ, kd, am, sd, q, u, ad, σB, α, ςB, β, qB, R, w⟩ := h
  refine q_aload_n C hl dL_law_206 rfl 2 rfl ?_
  refine q_aload_n C hl dL_law_207 rfl 3 rfl ?_
  refine q_iload_n C hl dL_law_208 rfl 0 rfl ?_
  refine q_iconst C dL_law_209 ?_
  refine q_iadd C dL_law_210 ?_
  refine q_sc (j := i + 1) C w hX hbl ⟨by omega, by omega⟩ hL dL_law_211 ?_
  refine q_runi C w fr_hd (q_V (As := [.int (jj (Xs xs (i + 1)))]) (rest := []) C w fr_hd fX3_letAhead gL_law_X3_letAhead rfl ⟨Nat.le_of_ble_eq_true rfl, Nat.le_of_ble_eq_true rfl⟩ (kX3_letAhead l D cI cC cS x hn adn hsn ads hh har hw adw σ ς hs ha η dp τ kd am sd q u (Xs xs (i + 1)) R.ia R.dd (Xs_b xs _) (ltu_b R.ia _) _) (q0 := 0) rfl rfl rfl rfl hl (Nat.le_of_ble_eq_true rfl) dL_law_212 hcs) (fun H locs w => ?_)
  refine q_aload_n C hl dL_law_215 rfl 1 rfl ?_
  refine q_aload_n C hl dL_law_216 rfl 3 rfl ?_
  refine q_iload_n C hl dL_law_217 rfl 0 rfl ?_
  refine q_iconst C dL_law_218 ?_
  refine q_iadd C dL_law_219 ?_
  refine q_sc (j := i + 1) C w hX hbl ⟨by omega, by omega⟩ hL dL_law_220 ?_
  refine q_runi C w fr_tl (q_V (As := [.int (jj (Xs xs (i + 1)))]) (rest := _ :: []) C w fr_tl fX4_letAhead gL_law_X4_letAhead rfl ⟨Nat.le_of_ble_eq_true rfl, Nat.le_of_ble_eq_true rfl⟩ (kX4_letAhead l D cI cC cS y ad σB α ςB β τ qB (Xs xs (i + 1)) R.ib R.b5 (Xs_b xs _) _) (q0 := 0) rfl rfl rfl rfl hl (Nat.le_of_ble_eq_true rfl) dL_law_221 hcs) (fun H locs w => ?_)
  refine q_icmpE (tgt := 711) C dL_law_224 (by decide) (ag_ltu R.ag _) ?_
  refine kk _ _ (LH.mk w ?_)
  rw [ag_ltu R.ag _]
  exact R.act (ag_ltv R.ag _) (lt_I R.ib _)
set_option maxHeartbeats 4000000 in
set_option maxRecDepth 10000 in
theorem law_swap {p : Program} {l : Launch} {e : Env} {s : State} {m : MethodId} {args : Array Value} {below : List Frame} {meth : Method} {c : Code} {H : Heap} {locs : List Loc} {cells slots : Nat} {Q : State → Prop} {D : va_G} {cI cC cS : ClassId} {ls : Array Slot} {b L x y : Nat} {xs : Nat → Int32} {i : Int} (C : Cx p s m args meth c cL_law 4 RL wsL_law D (tz cI cC cS) (fun a => s.heap.size ≤ a) ret) (hX : va_X b L xs s s.heap) (hbl : b < s.heap.size) (hL : L ≤ 2560) (hi : 0 ≤ i ∧ i + 5 ≤ L) (hcs : cells ≤ room_1.cells ∧ slots ≤ room_1.slots) (hl : lv_has ls 4 [(3, .int (jj i)), (2, .ref y), (1, .ref x), (0, .ref b)]) (h : LH D cI cC cS s x y H locs) (kk : ∀ (H : Heap) (locs : List Loc), LH D cI cC cS s x y H locs → W p l e room_1 s m args below meth c H locs cells slots Q (F0 m 711 ls [])) : W p l e room_1 s m args below meth c H locs cells slots Q (F0 m 229 ls []) := by
  obtain ⟨hn, adn, hsn, ads, hh, har, hw, adw, σ, ς, hs, ha, η, dp, τ, kd, am, sd, q, u, ad, σB, α, ςB, β, qB, R, w⟩ := h
  refine q_aload_n C hl dL_law_229 rfl 2 rfl ?_
  refine q_aload_n C hl dL_law_230 rfl 3 rfl ?_
  refine q_iload_n C hl dL_law_231 rfl 0 rfl ?_
  refine q_iconst C dL_law_232 ?_
  refine q_iadd C dL_law_233 ?_
  refine q_sc (j := i + 1) C w hX hbl ⟨by omega, by omega⟩ hL dL_law_234 ?_
  refine q_runi C w fr_hd (q_V (As := [.int (jj (Xs xs (i + 1)))]) (rest := []) C w fr_hd fX3_swap gL_law_X3_swap rfl ⟨Nat.le_of_ble_eq_true rfl, Nat.le_of_ble_eq_true rfl⟩ (kX3_swap l D cI cC cS x hn adn hsn ads hh har hw adw σ ς hs ha η dp τ kd am sd q u (Xs xs (i + 1)) R.ia R.dd (Xs_b xs _) ⟨(swu_b R.ia _).1, (swu_b R.ia _).2.1⟩ _) (q0 := 0) rfl rfl rfl rfl hl (Nat.le_of_ble_eq_true rfl) dL_law_235 hcs) (fun H locs w => ?_)
  refine q_aload_n C hl dL_law_238 rfl 1 rfl ?_
  refine q_aload_n C hl dL_law_239 rfl 3 rfl ?_
  refine q_iload_n C hl dL_law_240 rfl 0 rfl ?_
  refine q_iconst C dL_law_241 ?_
  refine q_iadd C dL_law_242 ?_
  refine q_sc (j := i + 1) C w hX hbl ⟨by omega, by omega⟩ hL dL_law_243 ?_
  refine q_runi C w fr_tl (q_V (As := [.int (jj (Xs xs (i + 1)))]) (rest := _ :: []) C w fr_tl fX4_swap gL_law_X4_swap rfl ⟨Nat.le_of_ble_eq_true rfl, Nat.le_of_ble_eq_true rfl⟩ (kX4_swap l D cI cC cS y ad σB α ςB β τ qB (Xs xs (i + 1)) R.ib R.b5 (Xs_b xs _) ⟨(swu_b R.ib _).1, (swu_b R.ib _).2.1⟩ _) (q0 := 0) rfl rfl rfl rfl hl (Nat.le_of_ble_eq_true rfl) dL_law_244 hcs) (fun H locs w => ?_)
  refine q_icmpE (tgt := 711) C dL_law_247 (by decide) (ag_swu R.ag _) ?_
  refine kk _ _ (LH.mk w ?_)
  rw [ag_swu R.ag _]
  exact R.act (ag_swv R.ag _) (sw_I R.ib _)
set_option maxHeartbeats 4000000 in
set_option maxRecDepth 10000 in
theorem law_set {p : Program} {l : Launch} {e : Env} {s : State} {m : MethodId} {args : Array Value} {below : List Frame} {meth : Method} {c : Code} {H : Heap} {locs : List Loc} {cells slots : Nat} {Q : State → Prop} {D : va_G} {cI cC cS : ClassId} {ls : Array Slot} {b L x y : Nat} {xs : Nat → Int32} {i : Int} (C : Cx p s m args meth c cL_law 4 RL wsL_law D (tz cI cC cS) (fun a => s.heap.size ≤ a) ret) (hX : va_X b L xs s s.heap) (hbl : b < s.heap.size) (hL : L ≤ 2560) (hi : 0 ≤ i ∧ i + 5 ≤ L) (hcs : cells ≤ room_1.cells ∧ slots ≤ room_1.slots) (hl : lv_has ls 4 [(3, .int (jj i)), (2, .ref y), (1, .ref x), (0, .ref b)]) (h : LH D cI cC cS s x y H locs) (kk : ∀ (H : Heap) (locs : List Loc), LH D cI cC cS s x y H locs → W p l e room_1 s m args below meth c H locs cells slots Q (F0 m 711 ls [])) : W p l e room_1 s m args below meth c H locs cells slots Q (F0 m 252 ls []) := by
  obtain ⟨hn, adn, hsn, ads, hh, har, hw, adw, σ, ς, hs, ha, η, dp, τ, kd, am, sd, q, u, ad, σB, α, ςB, β, qB, R, w⟩ := h
  refine q_aload_n C hl dL_law_252 rfl 2 rfl ?_
  refine q_aload_n C hl dL_law_253 rfl 3 rfl ?_
  refine q_iload_n C hl dL_law_254 rfl 0 rfl ?_
  refine q_iconst C dL_law_255 ?_
  refine q_iadd C dL_law_256 ?_
  refine q_sc (j := i + 1) C w hX hbl ⟨by omega, by omega⟩ hL dL_law_257 ?_
  refine q_aload_n C hl dL_law_258 rfl 3 rfl ?_
  refine q_iload_n C hl dL_law_259 rfl 0 rfl ?_
  refine q_iconst C dL_law_260 ?_
  refine q_iadd C dL_law_261 ?_
  refine q_sc (j := i + 2) C w hX hbl ⟨by omega, by omega⟩ hL dL_law_262 ?_
  refine q_runi C w fr_hd (q_V (As := [.int (jj (Xs xs (i + 1))), .int (jj (Xs xs (i + 2)))]) (rest := []) C w fr_hd fX3_set gL_law_X3_set rfl ⟨Nat.le_of_ble_eq_true rfl, Nat.le_of_ble_eq_true rfl⟩ (kX3_set l D cI cC cS x hn adn hsn ads hh har hw adw σ ς hs ha η dp τ kd am sd q u (Xs xs (i + 1)) (Xs xs (i + 2)) R.ia R.dd (Xs_b xs _) (Xs_b xs _) (setu_b R.ia _ _) _) (q0 := 0) rfl rfl rfl rfl hl (Nat.le_of_ble_eq_true rfl) dL_law_263 hcs) (fun H locs w => ?_)
  refine q_aload_n C hl dL_law_266 rfl 1 rfl ?_
  refine q_aload_n C hl dL_law_267 rfl 3 rfl ?_
  refine q_iload_n C hl dL_law_268 rfl 0 rfl ?_
  refine q_iconst C dL_law_269 ?_
  refine q_iadd C dL_law_270 ?_
  refine q_sc (j := i + 1) C w hX hbl ⟨by omega, by omega⟩ hL dL_law_271 ?_
  refine q_aload_n C hl dL_law_272 rfl 3 rfl ?_
  refine q_iload_n C hl dL_law_273 rfl 0 rfl ?_
  refine q_iconst C dL_law_274 ?_
  refine q_iadd C dL_law_275 ?_
  refine q_sc (j := i + 2) C w hX hbl ⟨by omega, by omega⟩ hL dL_law_276 ?_
  refine q_runi C w fr_tl (q_V (As := [.int (jj (Xs xs (i + 1))), .int (jj (Xs xs (i + 2)))]) (rest := _ :: []) C w fr_tl fX4_set gL_law_X4_set rfl ⟨Nat.le_of_ble_eq_true rfl, Nat.le_of_ble_eq_true rfl⟩ (kX4_set l D cI cC cS y ad σB α ςB β τ qB (Xs xs (i + 1)) (Xs xs (i + 2)) R.ib R.b5 (Xs_b xs _) (Xs_b xs _) _) (q0 := 0) rfl rfl rfl rfl hl (Nat.le_of_ble_eq_true rfl) dL_law_277 hcs) (fun H locs w => ?_)
  refine q_icmpE (tgt := 711) C dL_law_280 (by decide) (ag_setu R.ag _ _) ?_
  refine kk _ _ (LH.mk w ?_)
  rw [ag_setu R.ag _ _]
  exact R.act (ag_setv R.ag _ _) (set_I R.ib _ _)
set_option maxHeartbeats 4000000 in
set_option maxRecDepth 10000 in
theorem law_gust {p : Program} {l : Launch} {e : Env} {s : State} {m : MethodId} {args : Array Value} {below : List Frame} {meth : Method} {c : Code} {H : Heap} {locs : List Loc} {cells slots : Nat} {Q : State → Prop} {D : va_G} {cI cC cS : ClassId} {ls : Array Slot} {b L x y : Nat} {xs : Nat → Int32} {i : Int} (C : Cx p s m args meth c cL_law 4 RL wsL_law D (tz cI cC cS) (fun a => s.heap.size ≤ a) ret) (hX : va_X b L xs s s.heap) (hbl : b < s.heap.size) (hL : L ≤ 2560) (hi : 0 ≤ i ∧ i + 5 ≤ L) (hcs : cells ≤ room_1.cells ∧ slots ≤ room_1.slots) (hl : lv_has ls 4 [(3, .int (jj i)), (2, .ref y), (1, .ref x), (0, .ref b)]) (h : LH D cI cC cS s x y H locs) (kk : ∀ (H : Heap) (locs : List Loc), LH D cI cC cS s x y H locs → W p l e room_1 s m args below meth c H locs cells slots Q (F0 m 711 ls [])) : W p l e room_1 s m args below meth c H locs cells slots Q (F0 m 285 ls []) := by
  obtain ⟨hn, adn, hsn, ads, hh, har, hw, adw, σ, ς, hs, ha, η, dp, τ, kd, am, sd, q, u, ad, σB, α, ςB, β, qB, R, w⟩ := h
  refine q_aload_n C hl dL_law_285 rfl 2 rfl ?_
  refine q_aload_n C hl dL_law_286 rfl 3 rfl ?_
  refine q_iload_n C hl dL_law_287 rfl 0 rfl ?_
  refine q_iconst C dL_law_288 ?_
  refine q_iadd C dL_law_289 ?_
  refine q_sc (j := i + 1) C w hX hbl ⟨by omega, by omega⟩ hL dL_law_290 ?_
  refine q_aload_n C hl dL_law_291 rfl 3 rfl ?_
  refine q_iload_n C hl dL_law_292 rfl 0 rfl ?_
  refine q_iconst C dL_law_293 ?_
  refine q_iadd C dL_law_294 ?_
  refine q_sc (j := i + 2) C w hX hbl ⟨by omega, by omega⟩ hL dL_law_295 ?_
  refine q_runi C w fr_hd (q_V (As := [.int (jj (Xs xs (i + 1))), .int (jj (Xs xs (i + 2)))]) (rest := []) C w fr_hd fX3_gust gL_law_X3_gust rfl ⟨Nat.le_of_ble_eq_true rfl, Nat.le_of_ble_eq_true rfl⟩ (kX3_gust l D cI cC cS x hn adn hsn ads hh har hw adw σ ς hs ha η dp τ kd am sd q u (Xs xs (i + 1)) (Xs xs (i + 2)) R.ia R.dd (Xs_b xs _) (Xs_b xs _) ⟨(guA_b R.ia _ _).1, (guA_b R.ia _ _).2.1⟩ _) (q0 := 0) rfl rfl rfl rfl hl (Nat.le_of_ble_eq_true rfl) dL_law_296 hcs) (fun H locs w => ?_)
  refine q_aload_n C hl dL_law_299 rfl 1 rfl ?_
  refine q_aload_n C hl dL_law_300 rfl 3 rfl ?_
  refine q_iload_n C hl dL_law_301 rfl 0 rfl ?_
  refine q_iconst C dL_law_302 ?_
  refine q_iadd C dL_law_303 ?_
  refine q_sc (j := i + 1) C w hX hbl ⟨by omega, by omega⟩ hL dL_law_304 ?_
  refine q_aload_n C hl dL_law_305 rfl 3 rfl ?_
  refine q_iload_n C hl dL_law_306 rfl 0 rfl ?_
  refine q_iconst C dL_law_307 ?_
  refine q_iadd C dL_law_308 ?_
  refine q_sc (j := i + 2) C w hX hbl ⟨by omega, by omega⟩ hL dL_law_309 ?_
  refine q_runi C w fr_tl (q_V (As := [.int (jj (Xs xs (i + 1))), .int (jj (Xs xs (i + 2)))]) (rest := _ :: []) C w fr_tl fX4_gust gL_law_X4_gust rfl ⟨Nat.le_of_ble_eq_true rfl, Nat.le_of_ble_eq_true rfl⟩ (kX4_gust l D cI cC cS y ad σB α ςB β τ qB (Xs xs (i + 1)) (Xs xs (i + 2)) R.ib R.b5 (Xs_b xs _) (Xs_b xs _) (gur_b2 R.ib _ _) _) (q0 := 0) rfl rfl rfl rfl hl (Nat.le_of_ble_eq_true rfl) dL_law_310 hcs) (fun H locs w => ?_)
  refine q_icmpE (tgt := 711) C dL_law_313 (by decide) (ag_guu R.ag _ _) ?_
  refine kk _ _ (LH.mk w ?_)
  rw [ag_guu R.ag _ _]
  exact R.act (ag_guv R.ag _ _) (guv_I R.ib _ _)
set_option maxHeartbeats 4000000 in
set_option maxRecDepth 10000 in
theorem law_pass {p : Program} {l : Launch} {e : Env} {s : State} {m : MethodId} {args : Array Value} {below : List Frame} {meth : Method} {c : Code} {H : Heap} {locs : List Loc} {cells slots : Nat} {Q : State → Prop} {D : va_G} {cI cC cS : ClassId} {ls : Array Slot} {b L x y : Nat} {xs : Nat → Int32} {i : Int} (C : Cx p s m args meth c cL_law 4 RL wsL_law D (tz cI cC cS) (fun a => s.heap.size ≤ a) ret) (hX : va_X b L xs s s.heap) (hbl : b < s.heap.size) (hL : L ≤ 2560) (hi : 0 ≤ i ∧ i + 5 ≤ L) (hcs : cells ≤ room_1.cells ∧ slots ≤ room_1.slots) (hl : lv_has ls 4 [(3, .int (jj i)), (2, .ref y), (1, .ref x), (0, .ref b)]) (h : LH D cI cC cS s x y H locs) (kk : ∀ (H : Heap) (locs : List Loc), LH D cI cC cS s x y H locs → W p l e room_1 s m args below meth c H locs cells slots Q (F0 m 711 ls [])) : W p l e room_1 s m args below meth c H locs cells slots Q (F0 m 318 ls []) := by
  obtain ⟨hn, adn, hsn, ads, hh, har, hw, adw, σ, ς, hs, ha, η, dp, τ, kd, am, sd, q, u, ad, σB, α, ςB, β, qB, R, w⟩ := h
  refine q_aload_n C hl dL_law_318 rfl 2 rfl ?_
  refine q_aload_n C hl dL_law_319 rfl 3 rfl ?_
  refine q_iload_n C hl dL_law_320 rfl 0 rfl ?_
  refine q_iconst C dL_law_321 ?_
  refine q_iadd C dL_law_322 ?_
  refine q_sc (j := i + 1) C w hX hbl ⟨by omega, by omega⟩ hL dL_law_323 ?_
  refine q_runi C w fr_hd (q_V (As := [.int (jj (Xs xs (i + 1)))]) (rest := []) C w fr_hd fX3_pass gL_law_X3_pass rfl ⟨Nat.le_of_ble_eq_true rfl, Nat.le_of_ble_eq_true rfl⟩ (kX3_pass l D cI cC cS x hn adn hsn ads hh har hw adw σ ς hs ha η dp τ kd am sd q u (Xs xs (i + 1)) R.ia R.dd (Xs_b xs _) ⟨(pu2_b R.ia _).1, (pu2_b R.ia _).2.1⟩ _) (q0 := 0) rfl rfl rfl rfl hl (Nat.le_of_ble_eq_true rfl) dL_law_324 hcs) (fun H locs w => ?_)
  refine q_aload_n C hl dL_law_327 rfl 1 rfl ?_
  refine q_aload_n C hl dL_law_328 rfl 3 rfl ?_
  refine q_iload_n C hl dL_law_329 rfl 0 rfl ?_
  refine q_iconst C dL_law_330 ?_
  refine q_iadd C dL_law_331 ?_
  refine q_sc (j := i + 1) C w hX hbl ⟨by omega, by omega⟩ hL dL_law_332 ?_
  refine q_runi C w fr_tl (q_V (As := [.int (jj (Xs xs (i + 1)))]) (rest := _ :: []) C w fr_tl fX4_pass gL_law_X4_pass rfl ⟨Nat.le_of_ble_eq_true rfl, Nat.le_of_ble_eq_true rfl⟩ (kX4_pass l D cI cC cS y ad σB α ςB β τ qB (Xs xs (i + 1)) R.ib R.b5 (Xs_b xs _) _) (q0 := 0) rfl rfl rfl rfl hl (Nat.le_of_ble_eq_true rfl) dL_law_333 hcs) (fun H locs w => ?_)
  refine q_icmpE (tgt := 711) C dL_law_336 (by decide) (ag_pu2 R.ag _) ?_
  refine kk _ _ (LH.mk w ?_)
  rw [ag_pu2 R.ag _]
  exact R.act (ag_pv2 R.ag _) (pv2_I R.ib _)
set_option maxHeartbeats 4000000 in
set_option maxRecDepth 10000 in
theorem law_serve {p : Program} {l : Launch} {e : Env} {s : State} {m : MethodId} {args : Array Value} {below : List Frame} {meth : Method} {c : Code} {H : Heap} {locs : List Loc} {cells slots : Nat} {Q : State → Prop} {D : va_G} {cI cC cS : ClassId} {ls : Array Slot} {b L x y : Nat} {xs : Nat → Int32} {i : Int} (C : Cx p s m args meth c cL_law 4 RL wsL_law D (tz cI cC cS) (fun a => s.heap.size ≤ a) ret) (hX : va_X b L xs s s.heap) (hbl : b < s.heap.size) (hL : L ≤ 2560) (hi : 0 ≤ i ∧ i + 5 ≤ L) (hcs : cells ≤ room_1.cells ∧ slots ≤ room_1.slots) (hl : lv_has ls 4 [(3, .int (jj i)), (2, .ref y), (1, .ref x), (0, .ref b)]) (h : LH D cI cC cS s x y H locs) (kk : ∀ (H : Heap) (locs : List Loc), LH D cI cC cS s x y H locs → W p l e room_1 s m args below meth c H locs cells slots Q (F0 m 711 ls [])) : W p l e room_1 s m args below meth c H locs cells slots Q (F0 m 341 ls []) := by
  obtain ⟨hn, adn, hsn, ads, hh, har, hw, adw, σ, ς, hs, ha, η, dp, τ, kd, am, sd, q, u, ad, σB, α, ςB, β, qB, R, w⟩ := h
  refine q_aload_n C hl dL_law_341 rfl 2 rfl ?_
  refine q_runi C w fr_hd (q_V (As := []) (rest := []) C w fr_hd fX3_serve gL_law_X3_serve rfl ⟨Nat.le_of_ble_eq_true rfl, Nat.le_of_ble_eq_true rfl⟩ (kX3_serve l D cI cC cS x hn adn hsn ads hh har hw adw σ ς hs ha η dp τ kd am sd q u R.ia R.dd ⟨(seu_b R.ia).1, (seu_b R.ia).2.1⟩ _) (q0 := 0) rfl rfl rfl rfl hl (Nat.le_of_ble_eq_true rfl) dL_law_342 hcs) (fun H locs w => ?_)
  refine q_aload_n C hl dL_law_345 rfl 1 rfl ?_
  refine q_runi C w fr_tl (q_V (As := []) (rest := _ :: []) C w fr_tl fX4_serve gL_law_X4_serve rfl ⟨Nat.le_of_ble_eq_true rfl, Nat.le_of_ble_eq_true rfl⟩ (kX4_serve l D cI cC cS y ad σB α ςB β τ qB R.ib R.b5 ⟨(seu_b R.ib).1, (seu_b R.ib).2.1⟩ _) (q0 := 0) rfl rfl rfl rfl hl (Nat.le_of_ble_eq_true rfl) dL_law_346 hcs) (fun H locs w => ?_)
  refine q_icmpE (tgt := 711) C dL_law_349 (by decide) (ag_seu R.ag R.ib.v) ?_
  refine kk _ _ (LH.mk w ?_)
  rw [ag_seu R.ag R.ib.v]
  exact R.act (ag_sev R.ag R.ib.v) (sev_I R.ib)
set_option maxHeartbeats 4000000 in
set_option maxRecDepth 10000 in
theorem law_type {p : Program} {l : Launch} {e : Env} {s : State} {m : MethodId} {args : Array Value} {below : List Frame} {meth : Method} {c : Code} {H : Heap} {locs : List Loc} {cells slots : Nat} {Q : State → Prop} {D : va_G} {cI cC cS : ClassId} {ls : Array Slot} {b L x y : Nat} {xs : Nat → Int32} {i : Int} (C : Cx p s m args meth c cL_law 4 RL wsL_law D (tz cI cC cS) (fun a => s.heap.size ≤ a) ret) (hX : va_X b L xs s s.heap) (hbl : b < s.heap.size) (hL : L ≤ 2560) (hi : 0 ≤ i ∧ i + 5 ≤ L) (hcs : cells ≤ room_1.cells ∧ slots ≤ room_1.slots) (hl : lv_has ls 4 [(3, .int (jj i)), (2, .ref y), (1, .ref x), (0, .ref b)]) (h : LH D cI cC cS s x y H locs) (kk : ∀ (H : Heap) (locs : List Loc), LH D cI cC cS s x y H locs → W p l e room_1 s m args below meth c H locs cells slots Q (F0 m 711 ls [])) : W p l e room_1 s m args below meth c H locs cells slots Q (F0 m 354 ls []) := by
  obtain ⟨hn, adn, hsn, ads, hh, har, hw, adw, σ, ς, hs, ha, η, dp, τ, kd, am, sd, q, u, ad, σB, α, ςB, β, qB, R, w⟩ := h
  refine q_aload_n C hl dL_law_354 rfl 2 rfl ?_
  refine q_aload_n C hl dL_law_355 rfl 3 rfl ?_
  refine q_iload_n C hl dL_law_356 rfl 0 rfl ?_
  refine q_iconst C dL_law_357 ?_
  refine q_iadd C dL_law_358 ?_
  refine q_sc (j := i + 1) C w hX hbl ⟨by omega, by omega⟩ hL dL_law_359 ?_
  refine q_i2c C dL_law_360 ?_
  refine q_runi C w fr_hd (q_V (As := [.int (jj (Xs xs (i + 1) % 65536))]) (rest := []) C w fr_hd fX3_type gL_law_X3_type rfl ⟨Nat.le_of_ble_eq_true rfl, Nat.le_of_ble_eq_true rfl⟩ (kX3_type l D cI cC cS x hn adn hsn ads hh har hw adw σ ς hs ha η dp τ kd am sd q u (Xs xs (i + 1) % 65536) R.b1 (by omega) _) (q0 := 0) rfl rfl rfl rfl hl (Nat.le_of_ble_eq_true rfl) dL_law_361 hcs) (fun H locs w => ?_)
  refine q_aload_n C hl dL_law_364 rfl 1 rfl ?_
  refine q_aload_n C hl dL_law_365 rfl 3 rfl ?_
  refine q_iload_n C hl dL_law_366 rfl 0 rfl ?_
  refine q_iconst C dL_law_367 ?_
  refine q_iadd C dL_law_368 ?_
  refine q_sc (j := i + 1) C w hX hbl ⟨by omega, by omega⟩ hL dL_law_369 ?_
  refine q_i2c C dL_law_370 ?_
  refine q_runi C w fr_tl (q_V (As := [.int (jj (Xs xs (i + 1) % 65536))]) (rest := _ :: []) C w fr_tl fX4_type gL_law_X4_type rfl ⟨Nat.le_of_ble_eq_true rfl, Nat.le_of_ble_eq_true rfl⟩ (kX4_type l D cI cC cS y ad σB α ςB β τ qB (Xs xs (i + 1) % 65536) R.b7 _) (q0 := 0) rfl rfl rfl rfl hl (Nat.le_of_ble_eq_true rfl) dL_law_371 hcs) (fun H locs w => ?_)
  refine q_icmpE (tgt := 711) C dL_law_374 (by decide) ((by rw [R.q7])) ?_
  rw [show (if qB 7 = 60 then τ else up τ (qB 7) (Xs xs (i + 1) % 65536)) = (if q 1 = 60 then τ else up τ (q 1) (Xs xs (i + 1) % 65536)) by rw [R.q7]] at w
  exact kk _ _ (LH.mk w (R.ty (ch := Xs xs (i + 1) % 65536) (by omega)))
set_option maxHeartbeats 4000000 in
set_option maxRecDepth 10000 in
theorem law_clearText {p : Program} {l : Launch} {e : Env} {s : State} {m : MethodId} {args : Array Value} {below : List Frame} {meth : Method} {c : Code} {H : Heap} {locs : List Loc} {cells slots : Nat} {Q : State → Prop} {D : va_G} {cI cC cS : ClassId} {ls : Array Slot} {b L x y : Nat} {xs : Nat → Int32} {i : Int} (C : Cx p s m args meth c cL_law 4 RL wsL_law D (tz cI cC cS) (fun a => s.heap.size ≤ a) ret) (hX : va_X b L xs s s.heap) (hbl : b < s.heap.size) (hL : L ≤ 2560) (hi : 0 ≤ i ∧ i + 5 ≤ L) (hcs : cells ≤ room_1.cells ∧ slots ≤ room_1.slots) (hl : lv_has ls 4 [(3, .int (jj i)), (2, .ref y), (1, .ref x), (0, .ref b)]) (h : LH D cI cC cS s x y H locs) (kk : ∀ (H : Heap) (locs : List Loc), LH D cI cC cS s x y H locs → W p l e room_1 s m args below meth c H locs cells slots Q (F0 m 711 ls [])) : W p l e room_1 s m args below meth c H locs cells slots Q (F0 m 379 ls []) := by
  obtain ⟨hn, adn, hsn, ads, hh, har, hw, adw, σ, ς, hs, ha, η, dp, τ, kd, am, sd, q, u, ad, σB, α, ςB, β, qB, R, w⟩ := h
  refine q_aload_n C hl dL_law_379 rfl 2 rfl ?_
  refine q_runi C w fr_hd (q_V (As := []) (rest := []) C w fr_hd fX3_clearText gL_law_X3_clearText rfl ⟨Nat.le_of_ble_eq_true rfl, Nat.le_of_ble_eq_true rfl⟩ (kX3_clearText l D cI cC cS x hn adn hsn ads hh har hw adw σ ς hs ha η dp τ kd am sd q u  _) (q0 := 0) rfl rfl rfl rfl hl (Nat.le_of_ble_eq_true rfl) dL_law_380 hcs) (fun H locs w => ?_)
  refine q_aload_n C hl dL_law_383 rfl 1 rfl ?_
  refine q_runi C w fr_tl (q_V (As := []) (rest := _ :: []) C w fr_tl fX4_clearText gL_law_X4_clearText rfl ⟨Nat.le_of_ble_eq_true rfl, Nat.le_of_ble_eq_true rfl⟩ (kX4_clearText l D cI cC cS y ad σB α ςB β τ qB  _) (q0 := 0) rfl rfl rfl rfl hl (Nat.le_of_ble_eq_true rfl) dL_law_384 hcs) (fun H locs w => ?_)
  refine q_icmpE (tgt := 711) C dL_law_387 (by decide) (R.q7.symm) ?_
  exact kk _ _ (LH.mk w (R.cl))
set_option maxHeartbeats 4000000 in
set_option maxRecDepth 10000 in
theorem law_perform {p : Program} {l : Launch} {e : Env} {s : State} {m : MethodId} {args : Array Value} {below : List Frame} {meth : Method} {c : Code} {H : Heap} {locs : List Loc} {cells slots : Nat} {Q : State → Prop} {D : va_G} {cI cC cS : ClassId} {ls : Array Slot} {b L x y : Nat} {xs : Nat → Int32} {i : Int} (C : Cx p s m args meth c cL_law 4 RL wsL_law D (tz cI cC cS) (fun a => s.heap.size ≤ a) ret) (hX : va_X b L xs s s.heap) (hbl : b < s.heap.size) (hL : L ≤ 2560) (hi : 0 ≤ i ∧ i + 5 ≤ L) (hcs : cells ≤ room_1.cells ∧ slots ≤ room_1.slots) (hl : lv_has ls 4 [(3, .int (jj i)), (2, .ref y), (1, .ref x), (0, .ref b)]) (h : LH D cI cC cS s x y H locs) (kk : ∀ (H : Heap) (locs : List Loc), LH D cI cC cS s x y H locs → W p l e room_1 s m args below meth c H locs cells slots Q (F0 m 711 ls [])) : W p l e room_1 s m args below meth c H locs cells slots Q (F0 m 392 ls []) := by
  obtain ⟨hn, adn, hsn, ads, hh, har, hw, adw, σ, ς, hs, ha, η, dp, τ, kd, am, sd, q, u, ad, σB, α, ςB, β, qB, R, w⟩ := h
  refine q_aload_n C hl dL_law_392 rfl 2 rfl ?_
  refine q_runi C w fr_hd (q_V (As := []) (rest := []) C w fr_hd fX3_perform gL_law_X3_perform rfl ⟨Nat.le_of_ble_eq_true rfl, Nat.le_of_ble_eq_true rfl⟩ (kX3_perform l D cI cC cS x hn adn hsn ads hh har hw adw σ ς hs ha η dp τ kd am sd q u (q 1) rfl R.ia R.dd R.b1 (fun z z0 z1 => R.tx z z0 (by have := R.b1; omega)) _) (q0 := 0) rfl rfl rfl rfl hl (Nat.le_of_ble_eq_true rfl) dL_law_393 hcs) (fun H locs w => ?_)
  refine q_aload_n C hl dL_law_396 rfl 1 rfl ?_
  refine q_runi C w fr_tl (q_V (As := []) (rest := _ :: []) C w fr_tl fX4_perform gL_law_X4_perform rfl ⟨Nat.le_of_ble_eq_true rfl, Nat.le_of_ble_eq_true rfl⟩ (kX4_perform l D cI cC cS y ad σB α ςB β τ qB (q 1) R.q7 R.ib R.b5 R.b1 (fun z z0 z1 => R.tx z z0 (by have := R.b1; omega)) _) (q0 := 0) rfl rfl rfl rfl hl (Nat.le_of_ble_eq_true rfl) dL_law_397 hcs) (fun H locs w => ?_)
  refine q_icmpE (tgt := 711) C dL_law_400 (by decide) (ag_paU R.ag R.ib R.b1) ?_
  exact kk _ _ (LH.mk w (R.perf rfl _ _))
set_option maxHeartbeats 4000000 in
set_option maxRecDepth 10000 in
theorem law_stopped {p : Program} {l : Launch} {e : Env} {s : State} {m : MethodId} {args : Array Value} {below : List Frame} {meth : Method} {c : Code} {H : Heap} {locs : List Loc} {cells slots : Nat} {Q : State → Prop} {D : va_G} {cI cC cS : ClassId} {ls : Array Slot} {b L x y : Nat} {xs : Nat → Int32} {i : Int} (C : Cx p s m args meth c cL_law 4 RL wsL_law D (tz cI cC cS) (fun a => s.heap.size ≤ a) ret) (hX : va_X b L xs s s.heap) (hbl : b < s.heap.size) (hL : L ≤ 2560) (hi : 0 ≤ i ∧ i + 5 ≤ L) (hcs : cells ≤ room_1.cells ∧ slots ≤ room_1.slots) (hl : lv_has ls 4 [(3, .int (jj i)), (2, .ref y), (1, .ref x), (0, .ref b)]) (h : LH D cI cC cS s x y H locs) (kk : ∀ (H : Heap) (locs : List Loc), LH D cI cC cS s x y H locs → W p l e room_1 s m args below meth c H locs cells slots Q (F0 m 711 ls [])) : W p l e room_1 s m args below meth c H locs cells slots Q (F0 m 405 ls []) := by
  obtain ⟨hn, adn, hsn, ads, hh, har, hw, adw, σ, ς, hs, ha, η, dp, τ, kd, am, sd, q, u, ad, σB, α, ςB, β, qB, R, w⟩ := h
  refine q_aload_n C hl dL_law_405 rfl 2 rfl ?_
  refine q_aload_n C hl dL_law_406 rfl 3 rfl ?_
  refine q_iload_n C hl dL_law_407 rfl 0 rfl ?_
  refine q_iconst C dL_law_408 ?_
  refine q_iadd C dL_law_409 ?_
  refine q_sc (j := i + 1) C w hX hbl ⟨by omega, by omega⟩ hL dL_law_410 ?_
  refine q_runi C w fr_hd (q_V (As := [.int (jj (Xs xs (i + 1)))]) (rest := []) C w fr_hd fX3_stopped gL_law_X3_stopped rfl ⟨Nat.le_of_ble_eq_true rfl, Nat.le_of_ble_eq_true rfl⟩ (kX3_stopped l D cI cC cS x hn adn hsn ads hh har hw adw σ ς hs ha η dp τ kd am sd q u (Xs xs (i + 1)) (Xs_b xs _) _) (q0 := 0) rfl rfl rfl rfl hl (Nat.le_of_ble_eq_true rfl) dL_law_411 hcs) (fun H locs w => ?_)
  refine q_aload_n C hl dL_law_414 rfl 1 rfl ?_
  refine q_aload_n C hl dL_law_415 rfl 3 rfl ?_
  refine q_iload_n C hl dL_law_416 rfl 0 rfl ?_
  refine q_iconst C dL_law_417 ?_
  refine q_iadd C dL_law_418 ?_
  refine q_sc (j := i + 1) C w hX hbl ⟨by omega, by omega⟩ hL dL_law_419 ?_
  refine q_runi C w fr_tl (q_V (As := [.int (jj (Xs xs (i + 1)))]) (rest := _ :: []) C w fr_tl fX4_stopped gL_law_X4_stopped rfl ⟨Nat.le_of_ble_eq_true rfl, Nat.le_of_ble_eq_true rfl⟩ (kX4_stopped l D cI cC cS y ad σB α ςB β τ qB (Xs xs (i + 1)) (Xs_b xs _) _) (q0 := 0) rfl rfl rfl rfl hl (Nat.le_of_ble_eq_true rfl) dL_law_420 hcs) (fun H locs w => ?_)
  refine q_icmpE (tgt := 711) C dL_law_423 (by decide) ((by rw [R.2.2.2.2.2.2.2.2.1, R.2.2.2.2.2.2.2.2.2])) ?_
  exact kk _ _ (LH.mk w (R))
set_option maxHeartbeats 4000000 in
set_option maxRecDepth 10000 in
theorem law_undo {p : Program} {l : Launch} {e : Env} {s : State} {m : MethodId} {args : Array Value} {below : List Frame} {meth : Method} {c : Code} {H : Heap} {locs : List Loc} {cells slots : Nat} {Q : State → Prop} {D : va_G} {cI cC cS : ClassId} {ls : Array Slot} {b L x y : Nat} {xs : Nat → Int32} {i : Int} (C : Cx p s m args meth c cL_law 4 RL wsL_law D (tz cI cC cS) (fun a => s.heap.size ≤ a) ret) (hX : va_X b L xs s s.heap) (hbl : b < s.heap.size) (hL : L ≤ 2560) (hi : 0 ≤ i ∧ i + 5 ≤ L) (hcs : cells ≤ room_1.cells ∧ slots ≤ room_1.slots) (hl : lv_has ls 4 [(3, .int (jj i)), (2, .ref y), (1, .ref x), (0, .ref b)]) (h : LH D cI cC cS s x y H locs) (kk : ∀ (H : Heap) (locs : List Loc), LH D cI cC cS s x y H locs → W p l e room_1 s m args below meth c H locs cells slots Q (F0 m 711 ls [])) : W p l e room_1 s m args below meth c H locs cells slots Q (F0 m 428 ls []) := by
  obtain ⟨hn, adn, hsn, ads, hh, har, hw, adw, σ, ς, hs, ha, η, dp, τ, kd, am, sd, q, u, ad, σB, α, ςB, β, qB, R, w⟩ := h
  refine q_aload_n C hl dL_law_428 rfl 2 rfl ?_
  refine q_runi C w fr_hd (q_V (As := []) (rest := []) C w fr_hd fX3_undo gL_law_X3_undo rfl ⟨Nat.le_of_ble_eq_true rfl, Nat.le_of_ble_eq_true rfl⟩ (kX3_undo l D cI cC cS x hn adn hsn ads hh har hw adw σ ς hs ha η dp τ kd am sd q u R.dd _) (q0 := 0) rfl rfl rfl rfl hl (Nat.le_of_ble_eq_true rfl) dL_law_429 hcs) (fun H locs w => ?_)
  refine q_aload_n C hl dL_law_432 rfl 1 rfl ?_
  refine q_runi C w fr_tl (q_V (As := []) (rest := _ :: []) C w fr_tl fX4_undo gL_law_X4_undo rfl ⟨Nat.le_of_ble_eq_true rfl, Nat.le_of_ble_eq_true rfl⟩ (kX4_undo l D cI cC cS y ad σB α ςB β τ qB R.b5 _) (q0 := 0) rfl rfl rfl rfl hl (Nat.le_of_ble_eq_true rfl) dL_law_433 hcs) (fun H locs w => ?_)
  refine q_icmpE (tgt := 711) C dL_law_436 (by decide) ((by rw [R.q5])) ?_
  exact kk _ _ (LH.mk w (R.un))
set_option maxHeartbeats 4000000 in
set_option maxRecDepth 10000 in
theorem law_keep {p : Program} {l : Launch} {e : Env} {s : State} {m : MethodId} {args : Array Value} {below : List Frame} {meth : Method} {c : Code} {H : Heap} {locs : List Loc} {cells slots : Nat} {Q : State → Prop} {D : va_G} {cI cC cS : ClassId} {ls : Array Slot} {b L x y : Nat} {xs : Nat → Int32} {i : Int} (C : Cx p s m args meth c cL_law 4 RL wsL_law D (tz cI cC cS) (fun a => s.heap.size ≤ a) ret) (hX : va_X b L xs s s.heap) (hbl : b < s.heap.size) (hL : L ≤ 2560) (hi : 0 ≤ i ∧ i + 5 ≤ L) (hcs : cells ≤ room_1.cells ∧ slots ≤ room_1.slots) (hl : lv_has ls 4 [(3, .int (jj i)), (2, .ref y), (1, .ref x), (0, .ref b)]) (h : LH D cI cC cS s x y H locs) (kk : ∀ (H : Heap) (locs : List Loc), LH D cI cC cS s x y H locs → W p l e room_1 s m args below meth c H locs cells slots Q (F0 m 711 ls [])) : W p l e room_1 s m args below meth c H locs cells slots Q (F0 m 441 ls []) := by
  obtain ⟨hn, adn, hsn, ads, hh, har, hw, adw, σ, ς, hs, ha, η, dp, τ, kd, am, sd, q, u, ad, σB, α, ςB, β, qB, R, w⟩ := h
  refine q_aload_n C hl dL_law_441 rfl 2 rfl ?_
  refine q_runi C w fr_hd (q_V (As := []) (rest := []) C w fr_hd fX3_keep gL_law_X3_keep rfl ⟨Nat.le_of_ble_eq_true rfl, Nat.le_of_ble_eq_true rfl⟩ (kX3_keep l D cI cC cS x hn adn hsn ads hh har hw adw σ ς hs ha η dp τ kd am sd q u  _) (q0 := 0) rfl rfl rfl rfl hl (Nat.le_of_ble_eq_true rfl) dL_law_442 hcs) (fun H locs w => ?_)
  refine q_aload_n C hl dL_law_445 rfl 1 rfl ?_
  refine q_runi C w fr_tl (q_V (As := []) (rest := _ :: []) C w fr_tl fX4_keep gL_law_X4_keep rfl ⟨Nat.le_of_ble_eq_true rfl, Nat.le_of_ble_eq_true rfl⟩ (kX4_keep l D cI cC cS y ad σB α ςB β τ qB  _) (q0 := 0) rfl rfl rfl rfl hl (Nat.le_of_ble_eq_true rfl) dL_law_446 hcs) (fun H locs w => ?_)
  refine q_icmpE (tgt := 711) C dL_law_449 (by decide) (R.ag.n) ?_
  exact kk _ _ (LH.mk w (R.kp))
set_option maxHeartbeats 4000000 in
set_option maxRecDepth 10000 in
theorem law_restore {p : Program} {l : Launch} {e : Env} {s : State} {m : MethodId} {args : Array Value} {below : List Frame} {meth : Method} {c : Code} {H : Heap} {locs : List Loc} {cells slots : Nat} {Q : State → Prop} {D : va_G} {cI cC cS : ClassId} {ls : Array Slot} {b L x y : Nat} {xs : Nat → Int32} {i : Int} (C : Cx p s m args meth c cL_law 4 RL wsL_law D (tz cI cC cS) (fun a => s.heap.size ≤ a) ret) (hX : va_X b L xs s s.heap) (hbl : b < s.heap.size) (hL : L ≤ 2560) (hi : 0 ≤ i ∧ i + 5 ≤ L) (hcs : cells ≤ room_1.cells ∧ slots ≤ room_1.slots) (hl : lv_has ls 4 [(3, .int (jj i)), (2, .ref y), (1, .ref x), (0, .ref b)]) (h : LH D cI cC cS s x y H locs) (kk : ∀ (H : Heap) (locs : List Loc), LH D cI cC cS s x y H locs → W p l e room_1 s m args below meth c H locs cells slots Q (F0 m 711 ls [])) : W p l e room_1 s m args below meth c H locs cells slots Q (F0 m 454 ls []) := by
  obtain ⟨hn, adn, hsn, ads, hh, har, hw, adw, σ, ς, hs, ha, η, dp, τ, kd, am, sd, q, u, ad, σB, α, ςB, β, qB, R, w⟩ := h
  refine q_aload_n C hl dL_law_454 rfl 2 rfl ?_
  refine q_runi C w fr_hd (q_V (As := []) (rest := []) C w fr_hd fX3_restore gL_law_X3_restore rfl ⟨Nat.le_of_ble_eq_true rfl, Nat.le_of_ble_eq_true rfl⟩ (kX3_restore l D cI cC cS x hn adn hsn ads hh har hw adw σ ς hs ha η dp τ kd am sd q u R.dd (by rw [R.2.1.1]; exact R.2.1.2) R.2.2.1 _) (q0 := 0) rfl rfl rfl rfl hl (Nat.le_of_ble_eq_true rfl) dL_law_455 hcs) (fun H locs w => ?_)
  refine q_aload_n C hl dL_law_458 rfl 1 rfl ?_
  refine q_runi C w fr_tl (q_V (As := []) (rest := _ :: []) C w fr_tl fX4_restore gL_law_X4_restore rfl ⟨Nat.le_of_ble_eq_true rfl, Nat.le_of_ble_eq_true rfl⟩ (kX4_restore l D cI cC cS y ad σB α ςB β τ qB R.b5 R.2.1.2 _) (q0 := 0) rfl rfl rfl rfl hl (Nat.le_of_ble_eq_true rfl) dL_law_459 hcs) (fun H locs w => ?_)
  refine q_icmpE (tgt := 711) C dL_law_462 (by decide) (R.reu) ?_
  exact kk _ _ (LH.mk w (R.re))
set_option maxHeartbeats 4000000 in
set_option maxRecDepth 10000 in
theorem law_person {p : Program} {l : Launch} {e : Env} {s : State} {m : MethodId} {args : Array Value} {below : List Frame} {meth : Method} {c : Code} {H : Heap} {locs : List Loc} {cells slots : Nat} {Q : State → Prop} {D : va_G} {cI cC cS : ClassId} {ls : Array Slot} {b L x y : Nat} {xs : Nat → Int32} {i : Int} (C : Cx p s m args meth c cL_law 4 RL wsL_law D (tz cI cC cS) (fun a => s.heap.size ≤ a) ret) (hX : va_X b L xs s s.heap) (hbl : b < s.heap.size) (hL : L ≤ 2560) (hi : 0 ≤ i ∧ i + 5 ≤ L) (hcs : cells ≤ room_1.cells ∧ slots ≤ room_1.slots) (hl : lv_has ls 4 [(3, .int (jj i)), (2, .ref y), (1, .ref x), (0, .ref b)]) (h : LH D cI cC cS s x y H locs) (kk : ∀ (H : Heap) (locs : List Loc), LH D cI cC cS s x y H locs → W p l e room_1 s m args below meth c H locs cells slots Q (F0 m 711 ls [])) : W p l e room_1 s m args below meth c H locs cells slots Q (F0 m 467 ls []) := by
  obtain ⟨hn, adn, hsn, ads, hh, har, hw, adw, σ, ς, hs, ha, η, dp, τ, kd, am, sd, q, u, ad, σB, α, ςB, β, qB, R, w⟩ := h
  refine q_aload_n C hl dL_law_467 rfl 2 rfl ?_
  refine q_aload_n C hl dL_law_468 rfl 3 rfl ?_
  refine q_iload_n C hl dL_law_469 rfl 0 rfl ?_
  refine q_iconst C dL_law_470 ?_
  refine q_iadd C dL_law_471 ?_
  refine q_sc (j := i + 1) C w hX hbl ⟨by omega, by omega⟩ hL dL_law_472 ?_
  refine q_aload_n C hl dL_law_473 rfl 3 rfl ?_
  refine q_iload_n C hl dL_law_474 rfl 0 rfl ?_
  refine q_iconst C dL_law_475 ?_
  refine q_iadd C dL_law_476 ?_
  refine q_sc (j := i + 2) C w hX hbl ⟨by omega, by omega⟩ hL dL_law_477 ?_
  refine q_runi C w fr_hd (q_V (As := [.int (jj (Xs xs (i + 1))), .int (jj (Xs xs (i + 2)))]) (rest := []) C w fr_hd fX3_person gL_law_X3_person rfl ⟨Nat.le_of_ble_eq_true rfl, Nat.le_of_ble_eq_true rfl⟩ (kX3_person l D cI cC cS x hn adn hsn ads hh har hw adw σ ς hs ha η dp τ kd am sd q u (Xs xs (i + 1)) (Xs xs (i + 2)) R.ia (Xs_b xs _) (Xs_b xs _) _) (q0 := 0) rfl rfl rfl rfl hl (Nat.le_of_ble_eq_true rfl) dL_law_478 hcs) (fun H locs w => ?_)
  refine q_aload_n C hl dL_law_481 rfl 1 rfl ?_
  refine q_aload_n C hl dL_law_482 rfl 3 rfl ?_
  refine q_iload_n C hl dL_law_483 rfl 0 rfl ?_
  refine q_iconst C dL_law_484 ?_
  refine q_iadd C dL_law_485 ?_
  refine q_sc (j := i + 1) C w hX hbl ⟨by omega, by omega⟩ hL dL_law_486 ?_
  refine q_aload_n C hl dL_law_487 rfl 3 rfl ?_
  refine q_iload_n C hl dL_law_488 rfl 0 rfl ?_
  refine q_iconst C dL_law_489 ?_
  refine q_iadd C dL_law_490 ?_
  refine q_sc (j := i + 2) C w hX hbl ⟨by omega, by omega⟩ hL dL_law_491 ?_
  refine q_runi C w fr_tl (q_V (As := [.int (jj (Xs xs (i + 1))), .int (jj (Xs xs (i + 2)))]) (rest := _ :: []) C w fr_tl fX4_person gL_law_X4_person rfl ⟨Nat.le_of_ble_eq_true rfl, Nat.le_of_ble_eq_true rfl⟩ (kX4_person l D cI cC cS y ad σB α ςB β τ qB (Xs xs (i + 1)) (Xs xs (i + 2)) R.ib (Xs_b xs _) (Xs_b xs _) _) (q0 := 0) rfl rfl rfl rfl hl (Nat.le_of_ble_eq_true rfl) dL_law_492 hcs) (fun H locs w => ?_)
  refine q_icmpE (tgt := 711) C dL_law_495 (by decide) (ag_psu R.ag _ _) ?_
  exact kk _ _ (LH.mk w (R))
set_option maxHeartbeats 4000000 in
set_option maxRecDepth 10000 in
theorem law_placeOf {p : Program} {l : Launch} {e : Env} {s : State} {m : MethodId} {args : Array Value} {below : List Frame} {meth : Method} {c : Code} {H : Heap} {locs : List Loc} {cells slots : Nat} {Q : State → Prop} {D : va_G} {cI cC cS : ClassId} {ls : Array Slot} {b L x y : Nat} {xs : Nat → Int32} {i : Int} (C : Cx p s m args meth c cL_law 4 RL wsL_law D (tz cI cC cS) (fun a => s.heap.size ≤ a) ret) (hX : va_X b L xs s s.heap) (hbl : b < s.heap.size) (hL : L ≤ 2560) (hi : 0 ≤ i ∧ i + 5 ≤ L) (hcs : cells ≤ room_1.cells ∧ slots ≤ room_1.slots) (hl : lv_has ls 4 [(3, .int (jj i)), (2, .ref y), (1, .ref x), (0, .ref b)]) (h : LH D cI cC cS s x y H locs) (kk : ∀ (H : Heap) (locs : List Loc), LH D cI cC cS s x y H locs → W p l e room_1 s m args below meth c H locs cells slots Q (F0 m 711 ls [])) : W p l e room_1 s m args below meth c H locs cells slots Q (F0 m 500 ls []) := by
  obtain ⟨hn, adn, hsn, ads, hh, har, hw, adw, σ, ς, hs, ha, η, dp, τ, kd, am, sd, q, u, ad, σB, α, ςB, β, qB, R, w⟩ := h
  refine q_aload_n C hl dL_law_500 rfl 2 rfl ?_
  refine q_aload_n C hl dL_law_501 rfl 3 rfl ?_
  refine q_iload_n C hl dL_law_502 rfl 0 rfl ?_
  refine q_iconst C dL_law_503 ?_
  refine q_iadd C dL_law_504 ?_
  refine q_sc (j := i + 1) C w hX hbl ⟨by omega, by omega⟩ hL dL_law_505 ?_
  refine q_runi C w fr_hd (q_V (As := [.int (jj (Xs xs (i + 1)))]) (rest := []) C w fr_hd fX3_placeOf gL_law_X3_placeOf rfl ⟨Nat.le_of_ble_eq_true rfl, Nat.le_of_ble_eq_true rfl⟩ (kX3_placeOf l D cI cC cS x hn adn hsn ads hh har hw adw σ ς hs ha η dp τ kd am sd q u (Xs xs (i + 1)) R.ia (Xs_b xs _) _) (q0 := 0) rfl rfl rfl rfl hl (Nat.le_of_ble_eq_true rfl) dL_law_506 hcs) (fun H locs w => ?_)
  refine q_aload_n C hl dL_law_509 rfl 1 rfl ?_
  refine q_aload_n C hl dL_law_510 rfl 3 rfl ?_
  refine q_iload_n C hl dL_law_511 rfl 0 rfl ?_
  refine q_iconst C dL_law_512 ?_
  refine q_iadd C dL_law_513 ?_
  refine q_sc (j := i + 1) C w hX hbl ⟨by omega, by omega⟩ hL dL_law_514 ?_
  refine q_runi C w fr_tl (q_V (As := [.int (jj (Xs xs (i + 1)))]) (rest := _ :: []) C w fr_tl fX4_placeOf gL_law_X4_placeOf rfl ⟨Nat.le_of_ble_eq_true rfl, Nat.le_of_ble_eq_true rfl⟩ (kX4_placeOf l D cI cC cS y ad σB α ςB β τ qB (Xs xs (i + 1)) R.ib (Xs_b xs _) _) (q0 := 0) rfl rfl rfl rfl hl (Nat.le_of_ble_eq_true rfl) dL_law_515 hcs) (fun H locs w => ?_)
  refine q_icmpE (tgt := 711) C dL_law_518 (by decide) (ag_plu R.ag _) ?_
  exact kk _ _ (LH.mk w (R))
set_option maxHeartbeats 4000000 in
set_option maxRecDepth 10000 in
theorem law_ifGust {p : Program} {l : Launch} {e : Env} {s : State} {m : MethodId} {args : Array Value} {below : List Frame} {meth : Method} {c : Code} {H : Heap} {locs : List Loc} {cells slots : Nat} {Q : State → Prop} {D : va_G} {cI cC cS : ClassId} {ls : Array Slot} {b L x y : Nat} {xs : Nat → Int32} {i : Int} (C : Cx p s m args meth c cL_law 4 RL wsL_law D (tz cI cC cS) (fun a => s.heap.size ≤ a) ret) (hX : va_X b L xs s s.heap) (hbl : b < s.heap.size) (hL : L ≤ 2560) (hi : 0 ≤ i ∧ i + 5 ≤ L) (hcs : cells ≤ room_1.cells ∧ slots ≤ room_1.slots) (hl : lv_has ls 4 [(3, .int (jj i)), (2, .ref y), (1, .ref x), (0, .ref b)]) (h : LH D cI cC cS s x y H locs) (kk : ∀ (H : Heap) (locs : List Loc), LH D cI cC cS s x y H locs → W p l e room_1 s m args below meth c H locs cells slots Q (F0 m 711 ls [])) : W p l e room_1 s m args below meth c H locs cells slots Q (F0 m 523 ls []) := by
  obtain ⟨hn, adn, hsn, ads, hh, har, hw, adw, σ, ς, hs, ha, η, dp, τ, kd, am, sd, q, u, ad, σB, α, ςB, β, qB, R, w⟩ := h
  refine q_aload_n C hl dL_law_523 rfl 2 rfl ?_
  refine q_aload_n C hl dL_law_524 rfl 3 rfl ?_
  refine q_iload_n C hl dL_law_525 rfl 0 rfl ?_
  refine q_iconst C dL_law_526 ?_
  refine q_iadd C dL_law_527 ?_
  refine q_sc (j := i + 1) C w hX hbl ⟨by omega, by omega⟩ hL dL_law_528 ?_
  refine q_aload_n C hl dL_law_529 rfl 3 rfl ?_
  refine q_iload_n C hl dL_law_530 rfl 0 rfl ?_
  refine q_iconst C dL_law_531 ?_
  refine q_iadd C dL_law_532 ?_
  refine q_sc (j := i + 2) C w hX hbl ⟨by omega, by omega⟩ hL dL_law_533 ?_
  refine q_aload_n C hl dL_law_534 rfl 3 rfl ?_
  refine q_iload_n C hl dL_law_535 rfl 0 rfl ?_
  refine q_iconst C dL_law_536 ?_
  refine q_iadd C dL_law_537 ?_
  refine q_sc (j := i + 3) C w hX hbl ⟨by omega, by omega⟩ hL dL_law_538 ?_
  refine q_aload_n C hl dL_law_539 rfl 3 rfl ?_
  refine q_iload_n C hl dL_law_540 rfl 0 rfl ?_
  refine q_iconst C dL_law_541 ?_
  refine q_iadd C dL_law_542 ?_
  refine q_sc (j := i + 4) C w hX hbl ⟨by omega, by omega⟩ hL dL_law_543 ?_
  refine q_runi C w fr_hd (q_V (As := [.int (jj (Xs xs (i + 1))), .int (jj (Xs xs (i + 2))), .int (jj (Xs xs (i + 3))), .int (jj (Xs xs (i + 4)))]) (rest := []) C w fr_hd fX3_ifGust gL_law_X3_ifGust rfl ⟨Nat.le_of_ble_eq_true rfl, Nat.le_of_ble_eq_true rfl⟩ (kX3_ifGust l D cI cC cS x hn adn hsn ads hh har hw adw σ ς hs ha η dp τ kd am sd q u (Xs xs (i + 1)) (Xs xs (i + 2)) (Xs xs (i + 3)) (Xs xs (i + 4)) R.ia (Xs_b xs _) (Xs_b xs _) (Xs_b xs _) (Xs_b xs _) _) (q0 := 0) rfl rfl rfl rfl hl (Nat.le_of_ble_eq_true rfl) dL_law_544 hcs) (fun H locs w => ?_)
  refine q_aload_n C hl dL_law_547 rfl 1 rfl ?_
  refine q_aload_n C hl dL_law_548 rfl 3 rfl ?_
  refine q_iload_n C hl dL_law_549 rfl 0 rfl ?_
  refine q_iconst C dL_law_550 ?_
  refine q_iadd C dL_law_551 ?_
  refine q_sc (j := i + 1) C w hX hbl ⟨by omega, by omega⟩ hL dL_law_552 ?_
  refine q_aload_n C hl dL_law_553 rfl 3 rfl ?_
  refine q_iload_n C hl dL_law_554 rfl 0 rfl ?_
  refine q_iconst C dL_law_555 ?_
  refine q_iadd C dL_law_556 ?_
  refine q_sc (j := i + 2) C w hX hbl ⟨by omega, by omega⟩ hL dL_law_557 ?_
  refine q_aload_n C hl dL_law_558 rfl 3 rfl ?_
  refine q_iload_n C hl dL_law_559 rfl 0 rfl ?_
  refine q_iconst C dL_law_560 ?_
  refine q_iadd C dL_law_561 ?_
  refine q_sc (j := i + 3) C w hX hbl ⟨by omega, by omega⟩ hL dL_law_562 ?_
  refine q_aload_n C hl dL_law_563 rfl 3 rfl ?_
  refine q_iload_n C hl dL_law_564 rfl 0 rfl ?_
  refine q_iconst C dL_law_565 ?_
  refine q_iadd C dL_law_566 ?_
  refine q_sc (j := i + 4) C w hX hbl ⟨by omega, by omega⟩ hL dL_law_567 ?_
  refine q_runi C w fr_tl (q_V (As := [.int (jj (Xs xs (i + 1))), .int (jj (Xs xs (i + 2))), .int (jj (Xs xs (i + 3))), .int (jj (Xs xs (i + 4)))]) (rest := _ :: []) C w fr_tl fX4_ifGust gL_law_X4_ifGust rfl ⟨Nat.le_of_ble_eq_true rfl, Nat.le_of_ble_eq_true rfl⟩ (kX4_ifGust l D cI cC cS y ad σB α ςB β τ qB (Xs xs (i + 1)) (Xs xs (i + 2)) (Xs xs (i + 3)) (Xs xs (i + 4)) R.ib (Xs_b xs _) (Xs_b xs _) (Xs_b xs _) (Xs_b xs _) _) (q0 := 0) rfl rfl rfl rfl hl (Nat.le_of_ble_eq_true rfl) dL_law_568 hcs) (fun H locs w => ?_)
  refine q_icmpE (tgt := 711) C dL_law_571 (by decide) (ag_ifu R.ag _ _ _ _) ?_
  exact kk _ _ (LH.mk w (R))
set_option maxHeartbeats 4000000 in
set_option maxRecDepth 10000 in
theorem law_reason {p : Program} {l : Launch} {e : Env} {s : State} {m : MethodId} {args : Array Value} {below : List Frame} {meth : Method} {c : Code} {H : Heap} {locs : List Loc} {cells slots : Nat} {Q : State → Prop} {D : va_G} {cI cC cS : ClassId} {ls : Array Slot} {b L x y : Nat} {xs : Nat → Int32} {i : Int} (C : Cx p s m args meth c cL_law 4 RL wsL_law D (tz cI cC cS) (fun a => s.heap.size ≤ a) ret) (hX : va_X b L xs s s.heap) (hbl : b < s.heap.size) (hL : L ≤ 2560) (hi : 0 ≤ i ∧ i + 5 ≤ L) (hcs : cells ≤ room_1.cells ∧ slots ≤ room_1.slots) (hl : lv_has ls 4 [(3, .int (jj i)), (2, .ref y), (1, .ref x), (0, .ref b)]) (h : LH D cI cC cS s x y H locs) (kk : ∀ (H : Heap) (locs : List Loc), LH D cI cC cS s x y H locs → W p l e room_1 s m args below meth c H locs cells slots Q (F0 m 711 ls [])) : W p l e room_1 s m args below meth c H locs cells slots Q (F0 m 576 ls []) := by
  obtain ⟨hn, adn, hsn, ads, hh, har, hw, adw, σ, ς, hs, ha, η, dp, τ, kd, am, sd, q, u, ad, σB, α, ςB, β, qB, R, w⟩ := h
  refine q_aload_n C hl dL_law_576 rfl 2 rfl ?_
  refine q_aload_n C hl dL_law_577 rfl 3 rfl ?_
  refine q_iload_n C hl dL_law_578 rfl 0 rfl ?_
  refine q_iconst C dL_law_579 ?_
  refine q_iadd C dL_law_580 ?_
  refine q_sc (j := i + 1) C w hX hbl ⟨by omega, by omega⟩ hL dL_law_581 ?_
  refine q_runi C w fr_hd (q_V (As := [.int (jj (Xs xs (i + 1)))]) (rest := []) C w fr_hd fX3_reason gL_law_X3_reason rfl ⟨Nat.le_of_ble_eq_true rfl, Nat.le_of_ble_eq_true rfl⟩ (kX3_reason l D cI cC cS x hn adn hsn ads hh har hw adw σ ς hs ha η dp τ kd am sd q u (Xs xs (i + 1)) R.ia (Xs_b xs _) _) (q0 := 0) rfl rfl rfl rfl hl (Nat.le_of_ble_eq_true rfl) dL_law_582 hcs) (fun H locs w => ?_)
  refine q_aload_n C hl dL_law_585 rfl 1 rfl ?_
  refine q_aload_n C hl dL_law_586 rfl 3 rfl ?_
  refine q_iload_n C hl dL_law_587 rfl 0 rfl ?_
  refine q_iconst C dL_law_588 ?_
  refine q_iadd C dL_law_589 ?_
  refine q_sc (j := i + 1) C w hX hbl ⟨by omega, by omega⟩ hL dL_law_590 ?_
  refine q_runi C w fr_tl (q_V (As := [.int (jj (Xs xs (i + 1)))]) (rest := _ :: []) C w fr_tl fX4_reason gL_law_X4_reason rfl ⟨Nat.le_of_ble_eq_true rfl, Nat.le_of_ble_eq_true rfl⟩ (kX4_reason l D cI cC cS y ad σB α ςB β τ qB (Xs xs (i + 1)) R.ib (Xs_b xs _) _) (q0 := 0) rfl rfl rfl rfl hl (Nat.le_of_ble_eq_true rfl) dL_law_591 hcs) (fun H locs w => ?_)
  refine q_icmpE (tgt := 711) C dL_law_594 (by decide) (ag_reu R.ag _) ?_
  exact kk _ _ (LH.mk w (R))
set_option maxHeartbeats 4000000 in
set_option maxRecDepth 10000 in
theorem law_bestSwap {p : Program} {l : Launch} {e : Env} {s : State} {m : MethodId} {args : Array Value} {below : List Frame} {meth : Method} {c : Code} {H : Heap} {locs : List Loc} {cells slots : Nat} {Q : State → Prop} {D : va_G} {cI cC cS : ClassId} {ls : Array Slot} {b L x y : Nat} {xs : Nat → Int32} {i : Int} (C : Cx p s m args meth c cL_law 4 RL wsL_law D (tz cI cC cS) (fun a => s.heap.size ≤ a) ret) (hX : va_X b L xs s s.heap) (hbl : b < s.heap.size) (hL : L ≤ 2560) (hi : 0 ≤ i ∧ i + 5 ≤ L) (hcs : cells ≤ room_1.cells ∧ slots ≤ room_1.slots) (hl : lv_has ls 4 [(3, .int (jj i)), (2, .ref y), (1, .ref x), (0, .ref b)]) (h : LH D cI cC cS s x y H locs) (kk : ∀ (H : Heap) (locs : List Loc), LH D cI cC cS s x y H locs → W p l e room_1 s m args below meth c H locs cells slots Q (F0 m 711 ls [])) : W p l e room_1 s m args below meth c H locs cells slots Q (F0 m 599 ls []) := by
  obtain ⟨hn, adn, hsn, ads, hh, har, hw, adw, σ, ς, hs, ha, η, dp, τ, kd, am, sd, q, u, ad, σB, α, ςB, β, qB, R, w⟩ := h
  refine q_aload_n C hl dL_law_599 rfl 2 rfl ?_
  refine q_aload_n C hl dL_law_600 rfl 3 rfl ?_
  refine q_iload_n C hl dL_law_601 rfl 0 rfl ?_
  refine q_iconst C dL_law_602 ?_
  refine q_iadd C dL_law_603 ?_
  refine q_sc (j := i + 1) C w hX hbl ⟨by omega, by omega⟩ hL dL_law_604 ?_
  refine q_aload_n C hl dL_law_605 rfl 3 rfl ?_
  refine q_iload_n C hl dL_law_606 rfl 0 rfl ?_
  refine q_iconst C dL_law_607 ?_
  refine q_iadd C dL_law_608 ?_
  refine q_sc (j := i + 2) C w hX hbl ⟨by omega, by omega⟩ hL dL_law_609 ?_
  refine q_runi C w fr_hd (q_V (As := [.int (jj (Xs xs (i + 1))), .int (jj (Xs xs (i + 2)))]) (rest := []) C w fr_hd fX3_bestSwap gL_law_X3_bestSwap rfl ⟨Nat.le_of_ble_eq_true rfl, Nat.le_of_ble_eq_true rfl⟩ (kX3_bestSwap l D cI cC cS x hn adn hsn ads hh har hw adw σ ς hs ha η dp τ kd am sd q u (Xs xs (i + 1)) (Xs xs (i + 2)) R.ia (Xs_b xs _) (Xs_b xs _) _) (q0 := 0) rfl rfl rfl rfl hl (Nat.le_of_ble_eq_true rfl) dL_law_610 hcs) (fun H locs w => ?_)
  refine q_aload_n C hl dL_law_613 rfl 1 rfl ?_
  refine q_aload_n C hl dL_law_614 rfl 3 rfl ?_
  refine q_iload_n C hl dL_law_615 rfl 0 rfl ?_
  refine q_iconst C dL_law_616 ?_
  refine q_iadd C dL_law_617 ?_
  refine q_sc (j := i + 1) C w hX hbl ⟨by omega, by omega⟩ hL dL_law_618 ?_
  refine q_aload_n C hl dL_law_619 rfl 3 rfl ?_
  refine q_iload_n C hl dL_law_620 rfl 0 rfl ?_
  refine q_iconst C dL_law_621 ?_
  refine q_iadd C dL_law_622 ?_
  refine q_sc (j := i + 2) C w hX hbl ⟨by omega, by omega⟩ hL dL_law_623 ?_
  refine q_runi C w fr_tl (q_V (As := [.int (jj (Xs xs (i + 1))), .int (jj (Xs xs (i + 2)))]) (rest := _ :: []) C w fr_tl fX4_bestSwap gL_law_X4_bestSwap rfl ⟨Nat.le_of_ble_eq_true rfl, Nat.le_of_ble_eq_true rfl⟩ (kX4_bestSwap l D cI cC cS y ad σB α ςB β τ qB (Xs xs (i + 1)) (Xs xs (i + 2)) R.ib (Xs_b xs _) (Xs_b xs _) _) (q0 := 0) rfl rfl rfl rfl hl (Nat.le_of_ble_eq_true rfl) dL_law_624 hcs) (fun H locs w => ?_)
  refine q_icmpE (tgt := 711) C dL_law_627 (by decide) (ag_bsu R.ag _ _) ?_
  exact kk _ _ (LH.mk w (R))
set_option maxHeartbeats 4000000 in
set_option maxRecDepth 10000 in
theorem law_payer {p : Program} {l : Launch} {e : Env} {s : State} {m : MethodId} {args : Array Value} {below : List Frame} {meth : Method} {c : Code} {H : Heap} {locs : List Loc} {cells slots : Nat} {Q : State → Prop} {D : va_G} {cI cC cS : ClassId} {ls : Array Slot} {b L x y : Nat} {xs : Nat → Int32} {i : Int} (C : Cx p s m args meth c cL_law 4 RL wsL_law D (tz cI cC cS) (fun a => s.heap.size ≤ a) ret) (hX : va_X b L xs s s.heap) (hbl : b < s.heap.size) (hL : L ≤ 2560) (hi : 0 ≤ i ∧ i + 5 ≤ L) (hcs : cells ≤ room_1.cells ∧ slots ≤ room_1.slots) (hl : lv_has ls 4 [(3, .int (jj i)), (2, .ref y), (1, .ref x), (0, .ref b)]) (h : LH D cI cC cS s x y H locs) (kk : ∀ (H : Heap) (locs : List Loc), LH D cI cC cS s x y H locs → W p l e room_1 s m args below meth c H locs cells slots Q (F0 m 711 ls [])) : W p l e room_1 s m args below meth c H locs cells slots Q (F0 m 632 ls []) := by
  obtain ⟨hn, adn, hsn, ads, hh, har, hw, adw, σ, ς, hs, ha, η, dp, τ, kd, am, sd, q, u, ad, σB, α, ςB, β, qB, R, w⟩ := h
  refine q_aload_n C hl dL_law_632 rfl 2 rfl ?_
  refine q_aload_n C hl dL_law_633 rfl 3 rfl ?_
  refine q_iload_n C hl dL_law_634 rfl 0 rfl ?_
  refine q_iconst C dL_law_635 ?_
  refine q_iadd C dL_law_636 ?_
  refine q_sc (j := i + 1) C w hX hbl ⟨by omega, by omega⟩ hL dL_law_637 ?_
  refine q_runi C w fr_hd (q_V (As := [.int (jj (Xs xs (i + 1)))]) (rest := []) C w fr_hd fX3_payer gL_law_X3_payer rfl ⟨Nat.le_of_ble_eq_true rfl, Nat.le_of_ble_eq_true rfl⟩ (kX3_payer l D cI cC cS x hn adn hsn ads hh har hw adw σ ς hs ha η dp τ kd am sd q u (Xs xs (i + 1)) R.ia (Xs_b xs _) _) (q0 := 0) rfl rfl rfl rfl hl (Nat.le_of_ble_eq_true rfl) dL_law_638 hcs) (fun H locs w => ?_)
  refine q_aload_n C hl dL_law_641 rfl 1 rfl ?_
  refine q_aload_n C hl dL_law_642 rfl 3 rfl ?_
  refine q_iload_n C hl dL_law_643 rfl 0 rfl ?_
  refine q_iconst C dL_law_644 ?_
  refine q_iadd C dL_law_645 ?_
  refine q_sc (j := i + 1) C w hX hbl ⟨by omega, by omega⟩ hL dL_law_646 ?_
  refine q_runi C w fr_tl (q_V (As := [.int (jj (Xs xs (i + 1)))]) (rest := _ :: []) C w fr_tl fX4_payer gL_law_X4_payer rfl ⟨Nat.le_of_ble_eq_true rfl, Nat.le_of_ble_eq_true rfl⟩ (kX4_payer l D cI cC cS y ad σB α ςB β τ qB (Xs xs (i + 1)) R.ib (Xs_b xs _) _) (q0 := 0) rfl rfl rfl rfl hl (Nat.le_of_ble_eq_true rfl) dL_law_647 hcs) (fun H locs w => ?_)
  refine q_icmpE (tgt := 711) C dL_law_650 (by decide) (ag_pyu R.ag R.ib.v _) ?_
  exact kk _ _ (LH.mk w (R))
set_option maxHeartbeats 4000000 in
set_option maxRecDepth 10000 in
theorem law_bears {p : Program} {l : Launch} {e : Env} {s : State} {m : MethodId} {args : Array Value} {below : List Frame} {meth : Method} {c : Code} {H : Heap} {locs : List Loc} {cells slots : Nat} {Q : State → Prop} {D : va_G} {cI cC cS : ClassId} {ls : Array Slot} {b L x y : Nat} {xs : Nat → Int32} {i : Int} (C : Cx p s m args meth c cL_law 4 RL wsL_law D (tz cI cC cS) (fun a => s.heap.size ≤ a) ret) (hX : va_X b L xs s s.heap) (hbl : b < s.heap.size) (hL : L ≤ 2560) (hi : 0 ≤ i ∧ i + 5 ≤ L) (hcs : cells ≤ room_1.cells ∧ slots ≤ room_1.slots) (hl : lv_has ls 4 [(3, .int (jj i)), (2, .ref y), (1, .ref x), (0, .ref b)]) (h : LH D cI cC cS s x y H locs) (kk : ∀ (H : Heap) (locs : List Loc), LH D cI cC cS s x y H locs → W p l e room_1 s m args below meth c H locs cells slots Q (F0 m 711 ls [])) : W p l e room_1 s m args below meth c H locs cells slots Q (F0 m 655 ls []) := by
  obtain ⟨hn, adn, hsn, ads, hh, har, hw, adw, σ, ς, hs, ha, η, dp, τ, kd, am, sd, q, u, ad, σB, α, ςB, β, qB, R, w⟩ := h
  refine q_aload_n C hl dL_law_655 rfl 2 rfl ?_
  refine q_aload_n C hl dL_law_656 rfl 3 rfl ?_
  refine q_iload_n C hl dL_law_657 rfl 0 rfl ?_
  refine q_iconst C dL_law_658 ?_
  refine q_iadd C dL_law_659 ?_
  refine q_sc (j := i + 1) C w hX hbl ⟨by omega, by omega⟩ hL dL_law_660 ?_
  refine q_aload_n C hl dL_law_661 rfl 3 rfl ?_
  refine q_iload_n C hl dL_law_662 rfl 0 rfl ?_
  refine q_iconst C dL_law_663 ?_
  refine q_iadd C dL_law_664 ?_
  refine q_sc (j := i + 2) C w hX hbl ⟨by omega, by omega⟩ hL dL_law_665 ?_
  refine q_runi C w fr_hd (q_V (As := [.int (jj (Xs xs (i + 1))), .int (jj (Xs xs (i + 2)))]) (rest := []) C w fr_hd fX3_bears gL_law_X3_bears rfl ⟨Nat.le_of_ble_eq_true rfl, Nat.le_of_ble_eq_true rfl⟩ (kX3_bears l D cI cC cS x hn adn hsn ads hh har hw adw σ ς hs ha η dp τ kd am sd q u (Xs xs (i + 1)) (Xs xs (i + 2)) R.ia (Xs_b xs _) (Xs_b xs _) _) (q0 := 0) rfl rfl rfl rfl hl (Nat.le_of_ble_eq_true rfl) dL_law_666 hcs) (fun H locs w => ?_)
  refine q_aload_n C hl dL_law_669 rfl 1 rfl ?_
  refine q_aload_n C hl dL_law_670 rfl 3 rfl ?_
  refine q_iload_n C hl dL_law_671 rfl 0 rfl ?_
  refine q_iconst C dL_law_672 ?_
  refine q_iadd C dL_law_673 ?_
  refine q_sc (j := i + 1) C w hX hbl ⟨by omega, by omega⟩ hL dL_law_674 ?_
  refine q_aload_n C hl dL_law_675 rfl 3 rfl ?_
  refine q_iload_n C hl dL_law_676 rfl 0 rfl ?_
  refine q_iconst C dL_law_677 ?_
  refine q_iadd C dL_law_678 ?_
  refine q_sc (j := i + 2) C w hX hbl ⟨by omega, by omega⟩ hL dL_law_679 ?_
  refine q_runi C w fr_tl (q_V (As := [.int (jj (Xs xs (i + 1))), .int (jj (Xs xs (i + 2)))]) (rest := _ :: []) C w fr_tl fX4_bears gL_law_X4_bears rfl ⟨Nat.le_of_ble_eq_true rfl, Nat.le_of_ble_eq_true rfl⟩ (kX4_bears l D cI cC cS y ad σB α ςB β τ qB (Xs xs (i + 1)) (Xs xs (i + 2)) R.ib (Xs_b xs _) (Xs_b xs _) _) (q0 := 0) rfl rfl rfl rfl hl (Nat.le_of_ble_eq_true rfl) dL_law_680 hcs) (fun H locs w => ?_)
  refine q_icmpE (tgt := 711) C dL_law_683 (by decide) (ag_beu R.ag _ _) ?_
  exact kk _ _ (LH.mk w (R))
set_option maxHeartbeats 4000000 in
set_option maxRecDepth 10000 in
theorem law_count {p : Program} {l : Launch} {e : Env} {s : State} {m : MethodId} {args : Array Value} {below : List Frame} {meth : Method} {c : Code} {H : Heap} {locs : List Loc} {cells slots : Nat} {Q : State → Prop} {D : va_G} {cI cC cS : ClassId} {ls : Array Slot} {b L x y : Nat} {xs : Nat → Int32} {i : Int} (C : Cx p s m args meth c cL_law 4 RL wsL_law D (tz cI cC cS) (fun a => s.heap.size ≤ a) ret) (hX : va_X b L xs s s.heap) (hbl : b < s.heap.size) (hL : L ≤ 2560) (hi : 0 ≤ i ∧ i + 5 ≤ L) (hcs : cells ≤ room_1.cells ∧ slots ≤ room_1.slots) (hl : lv_has ls 4 [(3, .int (jj i)), (2, .ref y), (1, .ref x), (0, .ref b)]) (h : LH D cI cC cS s x y H locs) (kk : ∀ (H : Heap) (locs : List Loc), LH D cI cC cS s x y H locs → W p l e room_1 s m args below meth c H locs cells slots Q (F0 m 711 ls [])) : W p l e room_1 s m args below meth c H locs cells slots Q (F0 m 688 ls []) := by
  obtain ⟨hn, adn, hsn, ads, hh, har, hw, adw, σ, ς, hs, ha, η, dp, τ, kd, am, sd, q, u, ad, σB, α, ςB, β, qB, R, w⟩ := h
  refine q_aload_n C hl dL_law_688 rfl 2 rfl ?_
  refine q_aload_n C hl dL_law_689 rfl 3 rfl ?_
  refine q_iload_n C hl dL_law_690 rfl 0 rfl ?_
  refine q_iconst C dL_law_691 ?_
  refine q_iadd C dL_law_692 ?_
  refine q_sc (j := i + 1) C w hX hbl ⟨by omega, by omega⟩ hL dL_law_693 ?_
  refine q_runi C w fr_hd (q_V (As := [.int (jj (Xs xs (i + 1)))]) (rest := []) C w fr_hd fX3_count gL_law_X3_count rfl ⟨Nat.le_of_ble_eq_true rfl, Nat.le_of_ble_eq_true rfl⟩ (kX3_count l D cI cC cS x hn adn hsn ads hh har hw adw σ ς hs ha η dp τ kd am sd q u (Xs xs (i + 1)) R.ia (Xs_b xs _) _) (q0 := 0) rfl rfl rfl rfl hl (Nat.le_of_ble_eq_true rfl) dL_law_694 hcs) (fun H locs w => ?_)
  refine q_aload_n C hl dL_law_697 rfl 1 rfl ?_
  refine q_aload_n C hl dL_law_698 rfl 3 rfl ?_
  refine q_iload_n C hl dL_law_699 rfl 0 rfl ?_
  refine q_iconst C dL_law_700 ?_
  refine q_iadd C dL_law_701 ?_
  refine q_sc (j := i + 1) C w hX hbl ⟨by omega, by omega⟩ hL dL_law_702 ?_
  refine q_runi C w fr_tl (q_V (As := [.int (jj (Xs xs (i + 1)))]) (rest := _ :: []) C w fr_tl fX4_count gL_law_X4_count rfl ⟨Nat.le_of_ble_eq_true rfl, Nat.le_of_ble_eq_true rfl⟩ (kX4_count l D cI cC cS y ad σB α ςB β τ qB (Xs xs (i + 1)) R.ib (Xs_b xs _) _) (q0 := 0) rfl rfl rfl rfl hl (Nat.le_of_ble_eq_true rfl) dL_law_703 hcs) (fun H locs w => ?_)
  refine q_icmpE (tgt := 711) C dL_law_706 (by decide) ((by rw [R.q5, R.q7]; exact ag_cnu R.ag _ _ _)) ?_
  exact kk _ _ (LH.mk w (R))
