/-! THE LAW'S CASES (laid by wip/lawcases.py) -/
theorem lkL_25 : Cond.constantLong RL 25 (4294967295) ∈ wsL_law := by decide +kernel
set_option maxHeartbeats 4000000 in
set_option maxRecDepth 100000 in
theorem law_0 {p : Program} {l : Launch} {e : Env} {s : State} {m : MethodId} {below : List Frame} {meth : Method} {c : Code} {b L : Nat} {xs : Nat → Int32} {G : hp_G} {Q : State → Prop} {y w z n i cells slots : Nat} {hC hM : hp_H} {f : Nat → Int64} {R : Nat → Int} {T : Nat → Nat} {t : Int32} {H : Heap} {locs : List Loc} {ls : Array Slot} (X : hp_X p s m #[Value.ref b] meth c code 7 RL wsL_law ret G) (hX : va_X b L xs s s.heap) (hbl : b < s.heap.size) (hLb : L ≤ 3072) (hi : i + 6 ≤ L) (hcell : cells + 1 ≤ 601024) (hslot : slots + 6 ≤ 7293033) (I : LI G s y w hC hM f H locs) (C : cs hC z R T n) (M : ms hM y R T n t) (hl : lv_has ls 7 [(4, .int (nI i)), (3, .ref w), (2, .ref y), (1, .ref z), (0, .ref b)])
    (kk : ∀ (hC' hM' : hp_H) (f' : Nat → Int64) (R' : Nat → Int) (T' : Nat → Nat) (n' : Nat) (t' : Int32) (H1 : Heap) (locs1 : List Loc) (ls1 : Array Slot), LI G s y w hC' hM' f' H1 locs1 → cs hC' z R' T' n' → ms hM' y R' T' n' t' → lv_has ls1 7 [(4, .int (nI i)), (3, .ref w), (2, .ref y), (1, .ref z), (0, .ref b)] → W p l e room_1 s m #[Value.ref b] below meth c H1 locs1 (cells + 1) (slots + 6) Q (F0 m 944 ls1 [])) : W p l e room_1 s m #[Value.ref b] below meth c H locs cells slots Q (F0 m 132 ls []) := by
  obtain ⟨hC', pC, C'⟩ := load_eq C (xs (i + 1)) (jl (xs (i + 2)) (xs (i + 3)))
  obtain ⟨hM', pM, M'⟩ := mload_eq M (xs (i + 1)) (jl (xs (i + 2)) (xs (i + 3)))
  refine lv_aload_n X.1 X.2.1 dL_law_132 rfl (lv_at hl 3 rfl) ?_
  refine sc_ld X hX hbl I.2.2.2.2.2.2.2 hl 4 0 (k := 1) (kc := 1) rfl rfl rfl (by omega) hLb dL_law_133 dL_law_134 dL_law_136 (fun h => lv_iconst (v := 1) X.1 X.2.1 dL_law_136 (by decide) h) dL_law_137 dL_law_138 ?_
  refine sc_ld X hX hbl I.2.2.2.2.2.2.2 hl 4 0 (k := 2) (kc := 2) rfl rfl rfl (by omega) hLb dL_law_139 dL_law_140 dL_law_142 (fun h => lv_iconst (v := 2) X.1 X.2.1 dL_law_142 (by decide) h) dL_law_143 dL_law_144 ?_
  refine lv_i2l (v := Int32.toInt64 (xs (i + 2))) X.1 X.2.1 dL_law_145 rfl ?_
  refine lv_bipush (v := 32) X.1 X.2.1 dL_law_146 (by decide) ?_
  refine lv_lshl (v := hp_lshl (Int32.toInt64 (xs (i + 2))) (32 : Int32)) X.1 X.2.1 dL_law_148 rfl ?_
  refine sc_ld X hX hbl I.2.2.2.2.2.2.2 hl 4 0 (k := 3) (kc := 3) rfl rfl rfl (by omega) hLb dL_law_149 dL_law_150 dL_law_152 (fun h => lv_iconst (v := 3) X.1 X.2.1 dL_law_152 (by decide) h) dL_law_153 dL_law_154 ?_
  refine lv_i2l (v := Int32.toInt64 (xs (i + 3))) X.1 X.2.1 dL_law_155 rfl ?_
  refine lv_ldc2 (v := 4294967295) X.1 X.2.1 X.2.2.2.1 (X.2.2.2.2.1 _ lkL_25) dL_law_156 ?_
  refine lv_land X.1 X.2.1 dL_law_159 ?_
  refine lv_lor X.1 X.2.1 dL_law_160 ?_
  refine hq_ci I.yC (hp_runV X I.yC (ci := 5) (As := [.int (xs (i + 1)), .long (jl (xs (i + 2)) (xs (i + 3)))]) (n := 2) (T := TX5) (N := 6) (mX5_load l G pC) rfl (oX5_load pC) gL_law_X5_load rfl rfl rfl ndX5_load ⟨Nat.le_of_ble_eq_true rfl, Nat.le_of_ble_eq_true rfl⟩ rfl hl.1 rfl (Nat.le_of_ble_eq_true rfl) dL_law_161 ⟨by show _ ≤ 601024; omega, by show _ ≤ 7293033; omega⟩) (fun H locs Y hle hk => ?_)
  have I := I.setC Y hle hk
  refine lv_aload_n X.1 X.2.1 dL_law_164 rfl (lv_at hl 2 rfl) ?_
  refine sc_ld X hX hbl I.2.2.2.2.2.2.2 hl 4 0 (k := 1) (kc := 1) rfl rfl rfl (by omega) hLb dL_law_165 dL_law_166 dL_law_168 (fun h => lv_iconst (v := 1) X.1 X.2.1 dL_law_168 (by decide) h) dL_law_169 dL_law_170 ?_
  refine sc_ld X hX hbl I.2.2.2.2.2.2.2 hl 4 0 (k := 2) (kc := 2) rfl rfl rfl (by omega) hLb dL_law_171 dL_law_172 dL_law_174 (fun h => lv_iconst (v := 2) X.1 X.2.1 dL_law_174 (by decide) h) dL_law_175 dL_law_176 ?_
  refine lv_i2l (v := Int32.toInt64 (xs (i + 2))) X.1 X.2.1 dL_law_177 rfl ?_
  refine lv_bipush (v := 32) X.1 X.2.1 dL_law_178 (by decide) ?_
  refine lv_lshl (v := hp_lshl (Int32.toInt64 (xs (i + 2))) (32 : Int32)) X.1 X.2.1 dL_law_180 rfl ?_
  refine sc_ld X hX hbl I.2.2.2.2.2.2.2 hl 4 0 (k := 3) (kc := 3) rfl rfl rfl (by omega) hLb dL_law_181 dL_law_182 dL_law_184 (fun h => lv_iconst (v := 3) X.1 X.2.1 dL_law_184 (by decide) h) dL_law_185 dL_law_186 ?_
  refine lv_i2l (v := Int32.toInt64 (xs (i + 3))) X.1 X.2.1 dL_law_187 rfl ?_
  refine lv_ldc2 (v := 4294967295) X.1 X.2.1 X.2.2.2.1 (X.2.2.2.2.1 _ lkL_25) dL_law_188 ?_
  refine lv_land X.1 X.2.1 dL_law_191 ?_
  refine lv_lor X.1 X.2.1 dL_law_192 ?_
  refine hq_ci I.yM (hp_runV X I.yM (ci := 6) (As := [.int (xs (i + 1)), .long (jl (xs (i + 2)) (xs (i + 3)))]) (n := 2) (T := TX6) (N := 14) (mX6_load l G pM) rfl (oX6_load pM) gL_law_X6_load rfl rfl rfl ndX6_load ⟨Nat.le_of_ble_eq_true rfl, Nat.le_of_ble_eq_true rfl⟩ rfl hl.1 rfl (Nat.le_of_ble_eq_true rfl) dL_law_193 ⟨by show _ ≤ 601024; omega, by show _ ≤ 7293033; omega⟩) (fun H locs Y hle hk => ?_)
  have I := I.setM Y hle hk
  refine lv_icmp_eq (tgt := 944) X.1 X.2.1 dL_law_196 (by decide) (fun _ => ?_) (fun q => absurd rfl q)
  refine W.widen (k := cells + 1) (n := slots + 6) (by omega) (by omega) ?_
  exact kk _ _ _ _ _ _ _ _ _ _ I C' M' hl
set_option maxHeartbeats 4000000 in
set_option maxRecDepth 100000 in
theorem law_1 {p : Program} {l : Launch} {e : Env} {s : State} {m : MethodId} {below : List Frame} {meth : Method} {c : Code} {b L : Nat} {xs : Nat → Int32} {G : hp_G} {Q : State → Prop} {y w z n i cells slots : Nat} {hC hM : hp_H} {f : Nat → Int64} {R : Nat → Int} {T : Nat → Nat} {t : Int32} {H : Heap} {locs : List Loc} {ls : Array Slot} (X : hp_X p s m #[Value.ref b] meth c code 7 RL wsL_law ret G) (hX : va_X b L xs s s.heap) (hbl : b < s.heap.size) (hLb : L ≤ 3072) (hi : i + 6 ≤ L) (hcell : cells + 1 ≤ 601024) (hslot : slots + 6 ≤ 7293033) (I : LI G s y w hC hM f H locs) (C : cs hC z R T n) (M : ms hM y R T n t) (hl : lv_has ls 7 [(4, .int (nI i)), (3, .ref w), (2, .ref y), (1, .ref z), (0, .ref b)])
    (kk : ∀ (hC' hM' : hp_H) (f' : Nat → Int64) (R' : Nat → Int) (T' : Nat → Nat) (n' : Nat) (t' : Int32) (H1 : Heap) (locs1 : List Loc) (ls1 : Array Slot), LI G s y w hC' hM' f' H1 locs1 → cs hC' z R' T' n' → ms hM' y R' T' n' t' → lv_has ls1 7 [(4, .int (nI i)), (3, .ref w), (2, .ref y), (1, .ref z), (0, .ref b)] → W p l e room_1 s m #[Value.ref b] below meth c H1 locs1 (cells + 1) (slots + 6) Q (F0 m 944 ls1 [])) : W p l e room_1 s m #[Value.ref b] below meth c H locs cells slots Q (F0 m 201 ls []) := by
  obtain ⟨hC', pC, C'⟩ := reckon_eq C (xs (i + 1)) (xs (i + 2)) (xs (i + 3)) (xs (i + 4))
  obtain ⟨hM', pM, M'⟩ := mreckon_eq M (xs (i + 1)) (xs (i + 2)) (xs (i + 3)) (xs (i + 4))
  refine lv_aload_n X.1 X.2.1 dL_law_201 rfl (lv_at hl 3 rfl) ?_
  refine sc_ld X hX hbl I.2.2.2.2.2.2.2 hl 4 0 (k := 1) (kc := 1) rfl rfl rfl (by omega) hLb dL_law_202 dL_law_203 dL_law_205 (fun h => lv_iconst (v := 1) X.1 X.2.1 dL_law_205 (by decide) h) dL_law_206 dL_law_207 ?_
  refine sc_ld X hX hbl I.2.2.2.2.2.2.2 hl 4 0 (k := 2) (kc := 2) rfl rfl rfl (by omega) hLb dL_law_208 dL_law_209 dL_law_211 (fun h => lv_iconst (v := 2) X.1 X.2.1 dL_law_211 (by decide) h) dL_law_212 dL_law_213 ?_
  refine sc_ld X hX hbl I.2.2.2.2.2.2.2 hl 4 0 (k := 3) (kc := 3) rfl rfl rfl (by omega) hLb dL_law_214 dL_law_215 dL_law_217 (fun h => lv_iconst (v := 3) X.1 X.2.1 dL_law_217 (by decide) h) dL_law_218 dL_law_219 ?_
  refine sc_ld X hX hbl I.2.2.2.2.2.2.2 hl 4 0 (k := 4) (kc := 4) rfl rfl rfl (by omega) hLb dL_law_220 dL_law_221 dL_law_223 (fun h => lv_iconst (v := 4) X.1 X.2.1 dL_law_223 (by decide) h) dL_law_224 dL_law_225 ?_
  refine hq_ci I.yC (hp_runV X I.yC (ci := 5) (As := [.int (xs (i + 1)), .int (xs (i + 2)), .int (xs (i + 3)), .int (xs (i + 4))]) (n := 4) (T := TX5) (N := 6) (mX5_reckon l G pC) rfl (oX5_reckon pC) gL_law_X5_reckon rfl rfl rfl ndX5_reckon ⟨Nat.le_of_ble_eq_true rfl, Nat.le_of_ble_eq_true rfl⟩ rfl hl.1 rfl (Nat.le_of_ble_eq_true rfl) dL_law_226 ⟨by show _ ≤ 601024; omega, by show _ ≤ 7293033; omega⟩) (fun H locs Y hle hk => ?_)
  have I := I.setC Y hle hk
  refine lv_aload_n X.1 X.2.1 dL_law_229 rfl (lv_at hl 2 rfl) ?_
  refine sc_ld X hX hbl I.2.2.2.2.2.2.2 hl 4 0 (k := 1) (kc := 1) rfl rfl rfl (by omega) hLb dL_law_230 dL_law_231 dL_law_233 (fun h => lv_iconst (v := 1) X.1 X.2.1 dL_law_233 (by decide) h) dL_law_234 dL_law_235 ?_
  refine sc_ld X hX hbl I.2.2.2.2.2.2.2 hl 4 0 (k := 2) (kc := 2) rfl rfl rfl (by omega) hLb dL_law_236 dL_law_237 dL_law_239 (fun h => lv_iconst (v := 2) X.1 X.2.1 dL_law_239 (by decide) h) dL_law_240 dL_law_241 ?_
  refine sc_ld X hX hbl I.2.2.2.2.2.2.2 hl 4 0 (k := 3) (kc := 3) rfl rfl rfl (by omega) hLb dL_law_242 dL_law_243 dL_law_245 (fun h => lv_iconst (v := 3) X.1 X.2.1 dL_law_245 (by decide) h) dL_law_246 dL_law_247 ?_
  refine sc_ld X hX hbl I.2.2.2.2.2.2.2 hl 4 0 (k := 4) (kc := 4) rfl rfl rfl (by omega) hLb dL_law_248 dL_law_249 dL_law_251 (fun h => lv_iconst (v := 4) X.1 X.2.1 dL_law_251 (by decide) h) dL_law_252 dL_law_253 ?_
  refine hq_ci I.yM (hp_runV X I.yM (ci := 6) (As := [.int (xs (i + 1)), .int (xs (i + 2)), .int (xs (i + 3)), .int (xs (i + 4))]) (n := 4) (T := TX6) (N := 14) (mX6_reckon l G pM) rfl (oX6_reckon pM) gL_law_X6_reckon rfl rfl rfl ndX6_reckon ⟨Nat.le_of_ble_eq_true rfl, Nat.le_of_ble_eq_true rfl⟩ rfl hl.1 rfl (Nat.le_of_ble_eq_true rfl) dL_law_254 ⟨by show _ ≤ 601024; omega, by show _ ≤ 7293033; omega⟩) (fun H locs Y hle hk => ?_)
  have I := I.setM Y hle hk
  refine lv_icmp_eq (tgt := 944) X.1 X.2.1 dL_law_257 (by decide) (fun _ => ?_) (fun q => absurd rfl q)
  refine W.widen (k := cells + 1) (n := slots + 6) (by omega) (by omega) ?_
  exact kk _ _ _ _ _ _ _ _ _ _ I C' M' hl
set_option maxHeartbeats 4000000 in
set_option maxRecDepth 100000 in
theorem law_3 {p : Program} {l : Launch} {e : Env} {s : State} {m : MethodId} {below : List Frame} {meth : Method} {c : Code} {b L : Nat} {xs : Nat → Int32} {G : hp_G} {Q : State → Prop} {y w z n i cells slots : Nat} {hC hM : hp_H} {f : Nat → Int64} {R : Nat → Int} {T : Nat → Nat} {t : Int32} {H : Heap} {locs : List Loc} {ls : Array Slot} (X : hp_X p s m #[Value.ref b] meth c code 7 RL wsL_law ret G) (hX : va_X b L xs s s.heap) (hbl : b < s.heap.size) (hLb : L ≤ 3072) (hi : i + 6 ≤ L) (hcell : cells + 1 ≤ 601024) (hslot : slots + 6 ≤ 7293033) (I : LI G s y w hC hM f H locs) (C : cs hC z R T n) (M : ms hM y R T n t) (hl : lv_has ls 7 [(4, .int (nI i)), (3, .ref w), (2, .ref y), (1, .ref z), (0, .ref b)])
    (kk : ∀ (hC' hM' : hp_H) (f' : Nat → Int64) (R' : Nat → Int) (T' : Nat → Nat) (n' : Nat) (t' : Int32) (H1 : Heap) (locs1 : List Loc) (ls1 : Array Slot), LI G s y w hC' hM' f' H1 locs1 → cs hC' z R' T' n' → ms hM' y R' T' n' t' → lv_has ls1 7 [(4, .int (nI i)), (3, .ref w), (2, .ref y), (1, .ref z), (0, .ref b)] → W p l e room_1 s m #[Value.ref b] below meth c H1 locs1 (cells + 1) (slots + 6) Q (F0 m 944 ls1 [])) : W p l e room_1 s m #[Value.ref b] below meth c H locs cells slots Q (F0 m 382 ls []) := by
  obtain ⟨hC', pC, C'⟩ := gcdc_eq C (xs (i + 1)) (xs (i + 2)) (xs (i + 3))
  obtain ⟨hM', pM, M'⟩ := mgcd_eq M (xs (i + 1)) (xs (i + 2)) (xs (i + 3))
  refine lv_aload_n X.1 X.2.1 dL_law_382 rfl (lv_at hl 3 rfl) ?_
  refine sc_ld X hX hbl I.2.2.2.2.2.2.2 hl 4 0 (k := 1) (kc := 1) rfl rfl rfl (by omega) hLb dL_law_383 dL_law_384 dL_law_386 (fun h => lv_iconst (v := 1) X.1 X.2.1 dL_law_386 (by decide) h) dL_law_387 dL_law_388 ?_
  refine sc_ld X hX hbl I.2.2.2.2.2.2.2 hl 4 0 (k := 2) (kc := 2) rfl rfl rfl (by omega) hLb dL_law_389 dL_law_390 dL_law_392 (fun h => lv_iconst (v := 2) X.1 X.2.1 dL_law_392 (by decide) h) dL_law_393 dL_law_394 ?_
  refine sc_ld X hX hbl I.2.2.2.2.2.2.2 hl 4 0 (k := 3) (kc := 3) rfl rfl rfl (by omega) hLb dL_law_395 dL_law_396 dL_law_398 (fun h => lv_iconst (v := 3) X.1 X.2.1 dL_law_398 (by decide) h) dL_law_399 dL_law_400 ?_
  refine hq_ci I.yC (hp_runV X I.yC (ci := 5) (As := [.int (xs (i + 1)), .int (xs (i + 2)), .int (xs (i + 3))]) (n := 3) (T := TX5) (N := 6) (mX5_gcd l G pC) rfl (oX5_gcd pC) gL_law_X5_gcd rfl rfl rfl ndX5_gcd ⟨Nat.le_of_ble_eq_true rfl, Nat.le_of_ble_eq_true rfl⟩ rfl hl.1 rfl (Nat.le_of_ble_eq_true rfl) dL_law_401 ⟨by show _ ≤ 601024; omega, by show _ ≤ 7293033; omega⟩) (fun H locs Y hle hk => ?_)
  have I := I.setC Y hle hk
  refine lv_aload_n X.1 X.2.1 dL_law_404 rfl (lv_at hl 2 rfl) ?_
  refine sc_ld X hX hbl I.2.2.2.2.2.2.2 hl 4 0 (k := 1) (kc := 1) rfl rfl rfl (by omega) hLb dL_law_405 dL_law_406 dL_law_408 (fun h => lv_iconst (v := 1) X.1 X.2.1 dL_law_408 (by decide) h) dL_law_409 dL_law_410 ?_
  refine sc_ld X hX hbl I.2.2.2.2.2.2.2 hl 4 0 (k := 2) (kc := 2) rfl rfl rfl (by omega) hLb dL_law_411 dL_law_412 dL_law_414 (fun h => lv_iconst (v := 2) X.1 X.2.1 dL_law_414 (by decide) h) dL_law_415 dL_law_416 ?_
  refine sc_ld X hX hbl I.2.2.2.2.2.2.2 hl 4 0 (k := 3) (kc := 3) rfl rfl rfl (by omega) hLb dL_law_417 dL_law_418 dL_law_420 (fun h => lv_iconst (v := 3) X.1 X.2.1 dL_law_420 (by decide) h) dL_law_421 dL_law_422 ?_
  refine hq_ci I.yM (hp_runV X I.yM (ci := 6) (As := [.int (xs (i + 1)), .int (xs (i + 2)), .int (xs (i + 3))]) (n := 3) (T := TX6) (N := 14) (mX6_gcd l G pM) rfl (oX6_gcd pM) gL_law_X6_gcd rfl rfl rfl ndX6_gcd ⟨Nat.le_of_ble_eq_true rfl, Nat.le_of_ble_eq_true rfl⟩ rfl hl.1 rfl (Nat.le_of_ble_eq_true rfl) dL_law_423 ⟨by show _ ≤ 601024; omega, by show _ ≤ 7293033; omega⟩) (fun H locs Y hle hk => ?_)
  have I := I.setM Y hle hk
  refine lv_icmp_eq (tgt := 944) X.1 X.2.1 dL_law_426 (by decide) (fun _ => ?_) (fun q => absurd rfl q)
  refine W.widen (k := cells + 1) (n := slots + 6) (by omega) (by omega) ?_
  exact kk _ _ _ _ _ _ _ _ _ _ I C' M' hl
set_option maxHeartbeats 4000000 in
set_option maxRecDepth 100000 in
theorem law_5 {p : Program} {l : Launch} {e : Env} {s : State} {m : MethodId} {below : List Frame} {meth : Method} {c : Code} {b L : Nat} {xs : Nat → Int32} {G : hp_G} {Q : State → Prop} {y w z n i cells slots : Nat} {hC hM : hp_H} {f : Nat → Int64} {R : Nat → Int} {T : Nat → Nat} {t : Int32} {H : Heap} {locs : List Loc} {ls : Array Slot} (X : hp_X p s m #[Value.ref b] meth c code 7 RL wsL_law ret G) (hX : va_X b L xs s s.heap) (hbl : b < s.heap.size) (hLb : L ≤ 3072) (hi : i + 6 ≤ L) (hcell : cells + 1 ≤ 601024) (hslot : slots + 6 ≤ 7293033) (I : LI G s y w hC hM f H locs) (C : cs hC z R T n) (M : ms hM y R T n t) (hl : lv_has ls 7 [(4, .int (nI i)), (3, .ref w), (2, .ref y), (1, .ref z), (0, .ref b)])
    (kk : ∀ (hC' hM' : hp_H) (f' : Nat → Int64) (R' : Nat → Int) (T' : Nat → Nat) (n' : Nat) (t' : Int32) (H1 : Heap) (locs1 : List Loc) (ls1 : Array Slot), LI G s y w hC' hM' f' H1 locs1 → cs hC' z R' T' n' → ms hM' y R' T' n' t' → lv_has ls1 7 [(4, .int (nI i)), (3, .ref w), (2, .ref y), (1, .ref z), (0, .ref b)] → W p l e room_1 s m #[Value.ref b] below meth c H1 locs1 (cells + 1) (slots + 6) Q (F0 m 944 ls1 [])) : W p l e room_1 s m #[Value.ref b] below meth c H locs cells slots Q (F0 m 499 ls []) := by
  obtain ⟨hC', pC, C'⟩ := shiftc_eq C (xs (i + 1)) (xs (i + 2)) (xs (i + 3))
  obtain ⟨hM', pM, M'⟩ := mshift_eq M (xs (i + 1)) (xs (i + 2)) (xs (i + 3))
  refine lv_aload_n X.1 X.2.1 dL_law_499 rfl (lv_at hl 3 rfl) ?_
  refine sc_ld X hX hbl I.2.2.2.2.2.2.2 hl 4 0 (k := 1) (kc := 1) rfl rfl rfl (by omega) hLb dL_law_500 dL_law_501 dL_law_503 (fun h => lv_iconst (v := 1) X.1 X.2.1 dL_law_503 (by decide) h) dL_law_504 dL_law_505 ?_
  refine sc_ld X hX hbl I.2.2.2.2.2.2.2 hl 4 0 (k := 2) (kc := 2) rfl rfl rfl (by omega) hLb dL_law_506 dL_law_507 dL_law_509 (fun h => lv_iconst (v := 2) X.1 X.2.1 dL_law_509 (by decide) h) dL_law_510 dL_law_511 ?_
  refine sc_ld X hX hbl I.2.2.2.2.2.2.2 hl 4 0 (k := 3) (kc := 3) rfl rfl rfl (by omega) hLb dL_law_512 dL_law_513 dL_law_515 (fun h => lv_iconst (v := 3) X.1 X.2.1 dL_law_515 (by decide) h) dL_law_516 dL_law_517 ?_
  refine hq_ci I.yC (hp_runV X I.yC (ci := 5) (As := [.int (xs (i + 1)), .int (xs (i + 2)), .int (xs (i + 3))]) (n := 3) (T := TX5) (N := 6) (mX5_shift l G pC) rfl (oX5_shift pC) gL_law_X5_shift rfl rfl rfl ndX5_shift ⟨Nat.le_of_ble_eq_true rfl, Nat.le_of_ble_eq_true rfl⟩ rfl hl.1 rfl (Nat.le_of_ble_eq_true rfl) dL_law_518 ⟨by show _ ≤ 601024; omega, by show _ ≤ 7293033; omega⟩) (fun H locs Y hle hk => ?_)
  have I := I.setC Y hle hk
  refine lv_aload_n X.1 X.2.1 dL_law_521 rfl (lv_at hl 2 rfl) ?_
  refine sc_ld X hX hbl I.2.2.2.2.2.2.2 hl 4 0 (k := 1) (kc := 1) rfl rfl rfl (by omega) hLb dL_law_522 dL_law_523 dL_law_525 (fun h => lv_iconst (v := 1) X.1 X.2.1 dL_law_525 (by decide) h) dL_law_526 dL_law_527 ?_
  refine sc_ld X hX hbl I.2.2.2.2.2.2.2 hl 4 0 (k := 2) (kc := 2) rfl rfl rfl (by omega) hLb dL_law_528 dL_law_529 dL_law_531 (fun h => lv_iconst (v := 2) X.1 X.2.1 dL_law_531 (by decide) h) dL_law_532 dL_law_533 ?_
  refine sc_ld X hX hbl I.2.2.2.2.2.2.2 hl 4 0 (k := 3) (kc := 3) rfl rfl rfl (by omega) hLb dL_law_534 dL_law_535 dL_law_537 (fun h => lv_iconst (v := 3) X.1 X.2.1 dL_law_537 (by decide) h) dL_law_538 dL_law_539 ?_
  refine hq_ci I.yM (hp_runV X I.yM (ci := 6) (As := [.int (xs (i + 1)), .int (xs (i + 2)), .int (xs (i + 3))]) (n := 3) (T := TX6) (N := 14) (mX6_shift l G pM) rfl (oX6_shift pM) gL_law_X6_shift rfl rfl rfl ndX6_shift ⟨Nat.le_of_ble_eq_true rfl, Nat.le_of_ble_eq_true rfl⟩ rfl hl.1 rfl (Nat.le_of_ble_eq_true rfl) dL_law_540 ⟨by show _ ≤ 601024; omega, by show _ ≤ 7293033; omega⟩) (fun H locs Y hle hk => ?_)
  have I := I.setM Y hle hk
  refine lv_icmp_eq (tgt := 944) X.1 X.2.1 dL_law_543 (by decide) (fun _ => ?_) (fun q => absurd rfl q)
  refine W.widen (k := cells + 1) (n := slots + 6) (by omega) (by omega) ?_
  exact kk _ _ _ _ _ _ _ _ _ _ I C' M' hl
set_option maxHeartbeats 4000000 in
set_option maxRecDepth 100000 in
theorem law_6 {p : Program} {l : Launch} {e : Env} {s : State} {m : MethodId} {below : List Frame} {meth : Method} {c : Code} {b L : Nat} {xs : Nat → Int32} {G : hp_G} {Q : State → Prop} {y w z n i cells slots : Nat} {hC hM : hp_H} {f : Nat → Int64} {R : Nat → Int} {T : Nat → Nat} {t : Int32} {H : Heap} {locs : List Loc} {ls : Array Slot} (X : hp_X p s m #[Value.ref b] meth c code 7 RL wsL_law ret G) (hX : va_X b L xs s s.heap) (hbl : b < s.heap.size) (hLb : L ≤ 3072) (hi : i + 6 ≤ L) (hcell : cells + 1 ≤ 601024) (hslot : slots + 6 ≤ 7293033) (I : LI G s y w hC hM f H locs) (C : cs hC z R T n) (M : ms hM y R T n t) (hl : lv_has ls 7 [(4, .int (nI i)), (3, .ref w), (2, .ref y), (1, .ref z), (0, .ref b)])
    (kk : ∀ (hC' hM' : hp_H) (f' : Nat → Int64) (R' : Nat → Int) (T' : Nat → Nat) (n' : Nat) (t' : Int32) (H1 : Heap) (locs1 : List Loc) (ls1 : Array Slot), LI G s y w hC' hM' f' H1 locs1 → cs hC' z R' T' n' → ms hM' y R' T' n' t' → lv_has ls1 7 [(4, .int (nI i)), (3, .ref w), (2, .ref y), (1, .ref z), (0, .ref b)] → W p l e room_1 s m #[Value.ref b] below meth c H1 locs1 (cells + 1) (slots + 6) Q (F0 m 944 ls1 [])) : W p l e room_1 s m #[Value.ref b] below meth c H locs cells slots Q (F0 m 548 ls []) := by
  obtain ⟨hC', pC, C'⟩ := powerc_eq C (xs (i + 1)) (xs (i + 2)) (xs (i + 3))
  obtain ⟨hM', pM, M'⟩ := mpower_eq M (xs (i + 1)) (xs (i + 2)) (xs (i + 3))
  refine lv_aload_n X.1 X.2.1 dL_law_548 rfl (lv_at hl 3 rfl) ?_
  refine sc_ld X hX hbl I.2.2.2.2.2.2.2 hl 4 0 (k := 1) (kc := 1) rfl rfl rfl (by omega) hLb dL_law_549 dL_law_550 dL_law_552 (fun h => lv_iconst (v := 1) X.1 X.2.1 dL_law_552 (by decide) h) dL_law_553 dL_law_554 ?_
  refine sc_ld X hX hbl I.2.2.2.2.2.2.2 hl 4 0 (k := 2) (kc := 2) rfl rfl rfl (by omega) hLb dL_law_555 dL_law_556 dL_law_558 (fun h => lv_iconst (v := 2) X.1 X.2.1 dL_law_558 (by decide) h) dL_law_559 dL_law_560 ?_
  refine sc_ld X hX hbl I.2.2.2.2.2.2.2 hl 4 0 (k := 3) (kc := 3) rfl rfl rfl (by omega) hLb dL_law_561 dL_law_562 dL_law_564 (fun h => lv_iconst (v := 3) X.1 X.2.1 dL_law_564 (by decide) h) dL_law_565 dL_law_566 ?_
  refine hq_ci I.yC (hp_runV X I.yC (ci := 5) (As := [.int (xs (i + 1)), .int (xs (i + 2)), .int (xs (i + 3))]) (n := 3) (T := TX5) (N := 6) (mX5_power l G pC) rfl (oX5_power pC) gL_law_X5_power rfl rfl rfl ndX5_power ⟨Nat.le_of_ble_eq_true rfl, Nat.le_of_ble_eq_true rfl⟩ rfl hl.1 rfl (Nat.le_of_ble_eq_true rfl) dL_law_567 ⟨by show _ ≤ 601024; omega, by show _ ≤ 7293033; omega⟩) (fun H locs Y hle hk => ?_)
  have I := I.setC Y hle hk
  refine lv_aload_n X.1 X.2.1 dL_law_570 rfl (lv_at hl 2 rfl) ?_
  refine sc_ld X hX hbl I.2.2.2.2.2.2.2 hl 4 0 (k := 1) (kc := 1) rfl rfl rfl (by omega) hLb dL_law_571 dL_law_572 dL_law_574 (fun h => lv_iconst (v := 1) X.1 X.2.1 dL_law_574 (by decide) h) dL_law_575 dL_law_576 ?_
  refine sc_ld X hX hbl I.2.2.2.2.2.2.2 hl 4 0 (k := 2) (kc := 2) rfl rfl rfl (by omega) hLb dL_law_577 dL_law_578 dL_law_580 (fun h => lv_iconst (v := 2) X.1 X.2.1 dL_law_580 (by decide) h) dL_law_581 dL_law_582 ?_
  refine sc_ld X hX hbl I.2.2.2.2.2.2.2 hl 4 0 (k := 3) (kc := 3) rfl rfl rfl (by omega) hLb dL_law_583 dL_law_584 dL_law_586 (fun h => lv_iconst (v := 3) X.1 X.2.1 dL_law_586 (by decide) h) dL_law_587 dL_law_588 ?_
  refine hq_ci I.yM (hp_runV X I.yM (ci := 6) (As := [.int (xs (i + 1)), .int (xs (i + 2)), .int (xs (i + 3))]) (n := 3) (T := TX6) (N := 14) (mX6_power l G pM) rfl (oX6_power pM) gL_law_X6_power rfl rfl rfl ndX6_power ⟨Nat.le_of_ble_eq_true rfl, Nat.le_of_ble_eq_true rfl⟩ rfl hl.1 rfl (Nat.le_of_ble_eq_true rfl) dL_law_589 ⟨by show _ ≤ 601024; omega, by show _ ≤ 7293033; omega⟩) (fun H locs Y hle hk => ?_)
  have I := I.setM Y hle hk
  refine lv_icmp_eq (tgt := 944) X.1 X.2.1 dL_law_592 (by decide) (fun _ => ?_) (fun q => absurd rfl q)
  refine W.widen (k := cells + 1) (n := slots + 6) (by omega) (by omega) ?_
  exact kk _ _ _ _ _ _ _ _ _ _ I C' M' hl
set_option maxHeartbeats 4000000 in
set_option maxRecDepth 100000 in
theorem law_7 {p : Program} {l : Launch} {e : Env} {s : State} {m : MethodId} {below : List Frame} {meth : Method} {c : Code} {b L : Nat} {xs : Nat → Int32} {G : hp_G} {Q : State → Prop} {y w z n i cells slots : Nat} {hC hM : hp_H} {f : Nat → Int64} {R : Nat → Int} {T : Nat → Nat} {t : Int32} {H : Heap} {locs : List Loc} {ls : Array Slot} (X : hp_X p s m #[Value.ref b] meth c code 7 RL wsL_law ret G) (hX : va_X b L xs s s.heap) (hbl : b < s.heap.size) (hLb : L ≤ 3072) (hi : i + 6 ≤ L) (hcell : cells + 1 ≤ 601024) (hslot : slots + 6 ≤ 7293033) (I : LI G s y w hC hM f H locs) (C : cs hC z R T n) (M : ms hM y R T n t) (hl : lv_has ls 7 [(4, .int (nI i)), (3, .ref w), (2, .ref y), (1, .ref z), (0, .ref b)])
    (kk : ∀ (hC' hM' : hp_H) (f' : Nat → Int64) (R' : Nat → Int) (T' : Nat → Nat) (n' : Nat) (t' : Int32) (H1 : Heap) (locs1 : List Loc) (ls1 : Array Slot), LI G s y w hC' hM' f' H1 locs1 → cs hC' z R' T' n' → ms hM' y R' T' n' t' → lv_has ls1 7 [(4, .int (nI i)), (3, .ref w), (2, .ref y), (1, .ref z), (0, .ref b)] → W p l e room_1 s m #[Value.ref b] below meth c H1 locs1 (cells + 1) (slots + 6) Q (F0 m 944 ls1 [])) : W p l e room_1 s m #[Value.ref b] below meth c H locs cells slots Q (F0 m 597 ls []) := by
  have pC := compare_eq C (xs (i + 1)) (xs (i + 2))
  obtain ⟨hM', pM, M'⟩ := mcompare_eq M (xs (i + 1)) (xs (i + 2))
  refine lv_aload_n X.1 X.2.1 dL_law_597 rfl (lv_at hl 3 rfl) ?_
  refine sc_ld X hX hbl I.2.2.2.2.2.2.2 hl 4 0 (k := 1) (kc := 1) rfl rfl rfl (by omega) hLb dL_law_598 dL_law_599 dL_law_601 (fun h => lv_iconst (v := 1) X.1 X.2.1 dL_law_601 (by decide) h) dL_law_602 dL_law_603 ?_
  refine sc_ld X hX hbl I.2.2.2.2.2.2.2 hl 4 0 (k := 2) (kc := 2) rfl rfl rfl (by omega) hLb dL_law_604 dL_law_605 dL_law_607 (fun h => lv_iconst (v := 2) X.1 X.2.1 dL_law_607 (by decide) h) dL_law_608 dL_law_609 ?_
  refine hq_ci I.yC (hp_runV X I.yC (ci := 5) (As := [.int (xs (i + 1)), .int (xs (i + 2))]) (n := 2) (T := TX5) (N := 6) (mX5_compare l G pC) rfl (oX5_compare pC) gL_law_X5_compare rfl rfl rfl ndX5_compare ⟨Nat.le_of_ble_eq_true rfl, Nat.le_of_ble_eq_true rfl⟩ rfl hl.1 rfl (Nat.le_of_ble_eq_true rfl) dL_law_610 ⟨by show _ ≤ 601024; omega, by show _ ≤ 7293033; omega⟩) (fun H locs Y hle hk => ?_)
  have I := I.setC Y hle hk
  refine lv_aload_n X.1 X.2.1 dL_law_613 rfl (lv_at hl 2 rfl) ?_
  refine sc_ld X hX hbl I.2.2.2.2.2.2.2 hl 4 0 (k := 1) (kc := 1) rfl rfl rfl (by omega) hLb dL_law_614 dL_law_615 dL_law_617 (fun h => lv_iconst (v := 1) X.1 X.2.1 dL_law_617 (by decide) h) dL_law_618 dL_law_619 ?_
  refine sc_ld X hX hbl I.2.2.2.2.2.2.2 hl 4 0 (k := 2) (kc := 2) rfl rfl rfl (by omega) hLb dL_law_620 dL_law_621 dL_law_623 (fun h => lv_iconst (v := 2) X.1 X.2.1 dL_law_623 (by decide) h) dL_law_624 dL_law_625 ?_
  refine hq_ci I.yM (hp_runV X I.yM (ci := 6) (As := [.int (xs (i + 1)), .int (xs (i + 2))]) (n := 2) (T := TX6) (N := 14) (mX6_compare l G pM) rfl (oX6_compare pM) gL_law_X6_compare rfl rfl rfl ndX6_compare ⟨Nat.le_of_ble_eq_true rfl, Nat.le_of_ble_eq_true rfl⟩ rfl hl.1 rfl (Nat.le_of_ble_eq_true rfl) dL_law_626 ⟨by show _ ≤ 601024; omega, by show _ ≤ 7293033; omega⟩) (fun H locs Y hle hk => ?_)
  have I := I.setM Y hle hk
  refine lv_icmp_eq (tgt := 944) X.1 X.2.1 dL_law_629 (by decide) (fun _ => ?_) (fun q => absurd rfl q)
  refine W.widen (k := cells + 1) (n := slots + 6) (by omega) (by omega) ?_
  exact kk _ _ _ _ _ _ _ _ _ _ I C M' hl
set_option maxHeartbeats 4000000 in
set_option maxRecDepth 100000 in
theorem law_8 {p : Program} {l : Launch} {e : Env} {s : State} {m : MethodId} {below : List Frame} {meth : Method} {c : Code} {b L : Nat} {xs : Nat → Int32} {G : hp_G} {Q : State → Prop} {y w z n i cells slots : Nat} {hC hM : hp_H} {f : Nat → Int64} {R : Nat → Int} {T : Nat → Nat} {t : Int32} {H : Heap} {locs : List Loc} {ls : Array Slot} (X : hp_X p s m #[Value.ref b] meth c code 7 RL wsL_law ret G) (hX : va_X b L xs s s.heap) (hbl : b < s.heap.size) (hLb : L ≤ 3072) (hi : i + 6 ≤ L) (hcell : cells + 1 ≤ 601024) (hslot : slots + 6 ≤ 7293033) (I : LI G s y w hC hM f H locs) (C : cs hC z R T n) (M : ms hM y R T n t) (hl : lv_has ls 7 [(4, .int (nI i)), (3, .ref w), (2, .ref y), (1, .ref z), (0, .ref b)])
    (kk : ∀ (hC' hM' : hp_H) (f' : Nat → Int64) (R' : Nat → Int) (T' : Nat → Nat) (n' : Nat) (t' : Int32) (H1 : Heap) (locs1 : List Loc) (ls1 : Array Slot), LI G s y w hC' hM' f' H1 locs1 → cs hC' z R' T' n' → ms hM' y R' T' n' t' → lv_has ls1 7 [(4, .int (nI i)), (3, .ref w), (2, .ref y), (1, .ref z), (0, .ref b)] → W p l e room_1 s m #[Value.ref b] below meth c H1 locs1 (cells + 1) (slots + 6) Q (F0 m 944 ls1 [])) : W p l e room_1 s m #[Value.ref b] below meth c H locs cells slots Q (F0 m 634 ls []) := by
  have pC := sign_eq C (xs (i + 1))
  obtain ⟨hM', pM, M'⟩ := msign_eq M (xs (i + 1))
  refine lv_aload_n X.1 X.2.1 dL_law_634 rfl (lv_at hl 3 rfl) ?_
  refine sc_ld X hX hbl I.2.2.2.2.2.2.2 hl 4 0 (k := 1) (kc := 1) rfl rfl rfl (by omega) hLb dL_law_635 dL_law_636 dL_law_638 (fun h => lv_iconst (v := 1) X.1 X.2.1 dL_law_638 (by decide) h) dL_law_639 dL_law_640 ?_
  refine hq_ci I.yC (hp_runV X I.yC (ci := 5) (As := [.int (xs (i + 1))]) (n := 1) (T := TX5) (N := 6) (mX5_sign l G pC) rfl (oX5_sign pC) gL_law_X5_sign rfl rfl rfl ndX5_sign ⟨Nat.le_of_ble_eq_true rfl, Nat.le_of_ble_eq_true rfl⟩ rfl hl.1 rfl (Nat.le_of_ble_eq_true rfl) dL_law_641 ⟨by show _ ≤ 601024; omega, by show _ ≤ 7293033; omega⟩) (fun H locs Y hle hk => ?_)
  have I := I.setC Y hle hk
  refine lv_aload_n X.1 X.2.1 dL_law_644 rfl (lv_at hl 2 rfl) ?_
  refine sc_ld X hX hbl I.2.2.2.2.2.2.2 hl 4 0 (k := 1) (kc := 1) rfl rfl rfl (by omega) hLb dL_law_645 dL_law_646 dL_law_648 (fun h => lv_iconst (v := 1) X.1 X.2.1 dL_law_648 (by decide) h) dL_law_649 dL_law_650 ?_
  refine hq_ci I.yM (hp_runV X I.yM (ci := 6) (As := [.int (xs (i + 1))]) (n := 1) (T := TX6) (N := 14) (mX6_sign l G pM) rfl (oX6_sign pM) gL_law_X6_sign rfl rfl rfl ndX6_sign ⟨Nat.le_of_ble_eq_true rfl, Nat.le_of_ble_eq_true rfl⟩ rfl hl.1 rfl (Nat.le_of_ble_eq_true rfl) dL_law_651 ⟨by show _ ≤ 601024; omega, by show _ ≤ 7293033; omega⟩) (fun H locs Y hle hk => ?_)
  have I := I.setM Y hle hk
  refine lv_icmp_eq (tgt := 944) X.1 X.2.1 dL_law_654 (by decide) (fun _ => ?_) (fun q => absurd rfl q)
  refine W.widen (k := cells + 1) (n := slots + 6) (by omega) (by omega) ?_
  exact kk _ _ _ _ _ _ _ _ _ _ I C M' hl
set_option maxHeartbeats 4000000 in
set_option maxRecDepth 100000 in
theorem law_9 {p : Program} {l : Launch} {e : Env} {s : State} {m : MethodId} {below : List Frame} {meth : Method} {c : Code} {b L : Nat} {xs : Nat → Int32} {G : hp_G} {Q : State → Prop} {y w z n i cells slots : Nat} {hC hM : hp_H} {f : Nat → Int64} {R : Nat → Int} {T : Nat → Nat} {t : Int32} {H : Heap} {locs : List Loc} {ls : Array Slot} (X : hp_X p s m #[Value.ref b] meth c code 7 RL wsL_law ret G) (hX : va_X b L xs s s.heap) (hbl : b < s.heap.size) (hLb : L ≤ 3072) (hi : i + 6 ≤ L) (hcell : cells + 1 ≤ 601024) (hslot : slots + 6 ≤ 7293033) (I : LI G s y w hC hM f H locs) (C : cs hC z R T n) (M : ms hM y R T n t) (hl : lv_has ls 7 [(4, .int (nI i)), (3, .ref w), (2, .ref y), (1, .ref z), (0, .ref b)])
    (kk : ∀ (hC' hM' : hp_H) (f' : Nat → Int64) (R' : Nat → Int) (T' : Nat → Nat) (n' : Nat) (t' : Int32) (H1 : Heap) (locs1 : List Loc) (ls1 : Array Slot), LI G s y w hC' hM' f' H1 locs1 → cs hC' z R' T' n' → ms hM' y R' T' n' t' → lv_has ls1 7 [(4, .int (nI i)), (3, .ref w), (2, .ref y), (1, .ref z), (0, .ref b)] → W p l e room_1 s m #[Value.ref b] below meth c H1 locs1 (cells + 1) (slots + 6) Q (F0 m 944 ls1 [])) : W p l e room_1 s m #[Value.ref b] below meth c H locs cells slots Q (F0 m 659 ls []) := by
  have pC := bits_eq C (xs (i + 1))
  obtain ⟨hM', pM, M'⟩ := mbits_eq M (xs (i + 1))
  refine lv_aload_n X.1 X.2.1 dL_law_659 rfl (lv_at hl 3 rfl) ?_
  refine sc_ld X hX hbl I.2.2.2.2.2.2.2 hl 4 0 (k := 1) (kc := 1) rfl rfl rfl (by omega) hLb dL_law_660 dL_law_661 dL_law_663 (fun h => lv_iconst (v := 1) X.1 X.2.1 dL_law_663 (by decide) h) dL_law_664 dL_law_665 ?_
  refine hq_ci I.yC (hp_runV X I.yC (ci := 5) (As := [.int (xs (i + 1))]) (n := 1) (T := TX5) (N := 6) (mX5_bits l G pC) rfl (oX5_bits pC) gL_law_X5_bits rfl rfl rfl ndX5_bits ⟨Nat.le_of_ble_eq_true rfl, Nat.le_of_ble_eq_true rfl⟩ rfl hl.1 rfl (Nat.le_of_ble_eq_true rfl) dL_law_666 ⟨by show _ ≤ 601024; omega, by show _ ≤ 7293033; omega⟩) (fun H locs Y hle hk => ?_)
  have I := I.setC Y hle hk
  refine lv_aload_n X.1 X.2.1 dL_law_669 rfl (lv_at hl 2 rfl) ?_
  refine sc_ld X hX hbl I.2.2.2.2.2.2.2 hl 4 0 (k := 1) (kc := 1) rfl rfl rfl (by omega) hLb dL_law_670 dL_law_671 dL_law_673 (fun h => lv_iconst (v := 1) X.1 X.2.1 dL_law_673 (by decide) h) dL_law_674 dL_law_675 ?_
  refine hq_ci I.yM (hp_runV X I.yM (ci := 6) (As := [.int (xs (i + 1))]) (n := 1) (T := TX6) (N := 14) (mX6_bits l G pM) rfl (oX6_bits pM) gL_law_X6_bits rfl rfl rfl ndX6_bits ⟨Nat.le_of_ble_eq_true rfl, Nat.le_of_ble_eq_true rfl⟩ rfl hl.1 rfl (Nat.le_of_ble_eq_true rfl) dL_law_676 ⟨by show _ ≤ 601024; omega, by show _ ≤ 7293033; omega⟩) (fun H locs Y hle hk => ?_)
  have I := I.setM Y hle hk
  refine lv_icmp_eq (tgt := 944) X.1 X.2.1 dL_law_679 (by decide) (fun _ => ?_) (fun q => absurd rfl q)
  refine W.widen (k := cells + 1) (n := slots + 6) (by omega) (by omega) ?_
  exact kk _ _ _ _ _ _ _ _ _ _ I C M' hl
set_option maxHeartbeats 4000000 in
set_option maxRecDepth 100000 in
theorem law_10 {p : Program} {l : Launch} {e : Env} {s : State} {m : MethodId} {below : List Frame} {meth : Method} {c : Code} {b L : Nat} {xs : Nat → Int32} {G : hp_G} {Q : State → Prop} {y w z n i cells slots : Nat} {hC hM : hp_H} {f : Nat → Int64} {R : Nat → Int} {T : Nat → Nat} {t : Int32} {H : Heap} {locs : List Loc} {ls : Array Slot} (X : hp_X p s m #[Value.ref b] meth c code 7 RL wsL_law ret G) (hX : va_X b L xs s s.heap) (hbl : b < s.heap.size) (hLb : L ≤ 3072) (hi : i + 6 ≤ L) (hcell : cells + 1 ≤ 601024) (hslot : slots + 6 ≤ 7293033) (I : LI G s y w hC hM f H locs) (C : cs hC z R T n) (M : ms hM y R T n t) (hl : lv_has ls 7 [(4, .int (nI i)), (3, .ref w), (2, .ref y), (1, .ref z), (0, .ref b)])
    (kk : ∀ (hC' hM' : hp_H) (f' : Nat → Int64) (R' : Nat → Int) (T' : Nat → Nat) (n' : Nat) (t' : Int32) (H1 : Heap) (locs1 : List Loc) (ls1 : Array Slot), LI G s y w hC' hM' f' H1 locs1 → cs hC' z R' T' n' → ms hM' y R' T' n' t' → lv_has ls1 7 [(4, .int (nI i)), (3, .ref w), (2, .ref y), (1, .ref z), (0, .ref b)] → W p l e room_1 s m #[Value.ref b] below meth c H1 locs1 (cells + 1) (slots + 6) Q (F0 m 944 ls1 [])) : W p l e room_1 s m #[Value.ref b] below meth c H locs cells slots Q (F0 m 684 ls []) := by
  have pC := part_eq C (xs (i + 1)) (xs (i + 2))
  obtain ⟨hM', pM, M'⟩ := mpart_eq M (xs (i + 1)) (xs (i + 2))
  refine lv_aload_n X.1 X.2.1 dL_law_684 rfl (lv_at hl 3 rfl) ?_
  refine sc_ld X hX hbl I.2.2.2.2.2.2.2 hl 4 0 (k := 1) (kc := 1) rfl rfl rfl (by omega) hLb dL_law_685 dL_law_686 dL_law_688 (fun h => lv_iconst (v := 1) X.1 X.2.1 dL_law_688 (by decide) h) dL_law_689 dL_law_690 ?_
  refine sc_ld X hX hbl I.2.2.2.2.2.2.2 hl 4 0 (k := 2) (kc := 2) rfl rfl rfl (by omega) hLb dL_law_691 dL_law_692 dL_law_694 (fun h => lv_iconst (v := 2) X.1 X.2.1 dL_law_694 (by decide) h) dL_law_695 dL_law_696 ?_
  refine hq_ci I.yC (hp_runV X I.yC (ci := 5) (As := [.int (xs (i + 1)), .int (xs (i + 2))]) (n := 2) (T := TX5) (N := 6) (mX5_part l G pC) rfl (oX5_part pC) gL_law_X5_part rfl rfl rfl ndX5_part ⟨Nat.le_of_ble_eq_true rfl, Nat.le_of_ble_eq_true rfl⟩ rfl hl.1 rfl (Nat.le_of_ble_eq_true rfl) dL_law_697 ⟨by show _ ≤ 601024; omega, by show _ ≤ 7293033; omega⟩) (fun H locs Y hle hk => ?_)
  have I := I.setC Y hle hk
  refine lv_aload_n X.1 X.2.1 dL_law_700 rfl (lv_at hl 2 rfl) ?_
  refine sc_ld X hX hbl I.2.2.2.2.2.2.2 hl 4 0 (k := 1) (kc := 1) rfl rfl rfl (by omega) hLb dL_law_701 dL_law_702 dL_law_704 (fun h => lv_iconst (v := 1) X.1 X.2.1 dL_law_704 (by decide) h) dL_law_705 dL_law_706 ?_
  refine sc_ld X hX hbl I.2.2.2.2.2.2.2 hl 4 0 (k := 2) (kc := 2) rfl rfl rfl (by omega) hLb dL_law_707 dL_law_708 dL_law_710 (fun h => lv_iconst (v := 2) X.1 X.2.1 dL_law_710 (by decide) h) dL_law_711 dL_law_712 ?_
  refine hq_ci I.yM (hp_runV X I.yM (ci := 6) (As := [.int (xs (i + 1)), .int (xs (i + 2))]) (n := 2) (T := TX6) (N := 14) (mX6_part l G pM) rfl (oX6_part pM) gL_law_X6_part rfl rfl rfl ndX6_part ⟨Nat.le_of_ble_eq_true rfl, Nat.le_of_ble_eq_true rfl⟩ rfl hl.1 rfl (Nat.le_of_ble_eq_true rfl) dL_law_713 ⟨by show _ ≤ 601024; omega, by show _ ≤ 7293033; omega⟩) (fun H locs Y hle hk => ?_)
  have I := I.setM Y hle hk
  refine lv_icmp_eq (tgt := 944) X.1 X.2.1 dL_law_716 (by decide) (fun _ => ?_) (fun q => absurd rfl q)
  refine W.widen (k := cells + 1) (n := slots + 6) (by omega) (by omega) ?_
  exact kk _ _ _ _ _ _ _ _ _ _ I C M' hl
set_option maxHeartbeats 4000000 in
set_option maxRecDepth 100000 in
theorem law_11 {p : Program} {l : Launch} {e : Env} {s : State} {m : MethodId} {below : List Frame} {meth : Method} {c : Code} {b L : Nat} {xs : Nat → Int32} {G : hp_G} {Q : State → Prop} {y w z n i cells slots : Nat} {hC hM : hp_H} {f : Nat → Int64} {R : Nat → Int} {T : Nat → Nat} {t : Int32} {H : Heap} {locs : List Loc} {ls : Array Slot} (X : hp_X p s m #[Value.ref b] meth c code 7 RL wsL_law ret G) (hX : va_X b L xs s s.heap) (hbl : b < s.heap.size) (hLb : L ≤ 3072) (hi : i + 6 ≤ L) (hcell : cells + 1 ≤ 601024) (hslot : slots + 6 ≤ 7293033) (I : LI G s y w hC hM f H locs) (C : cs hC z R T n) (M : ms hM y R T n t) (hl : lv_has ls 7 [(4, .int (nI i)), (3, .ref w), (2, .ref y), (1, .ref z), (0, .ref b)])
    (kk : ∀ (hC' hM' : hp_H) (f' : Nat → Int64) (R' : Nat → Int) (T' : Nat → Nat) (n' : Nat) (t' : Int32) (H1 : Heap) (locs1 : List Loc) (ls1 : Array Slot), LI G s y w hC' hM' f' H1 locs1 → cs hC' z R' T' n' → ms hM' y R' T' n' t' → lv_has ls1 7 [(4, .int (nI i)), (3, .ref w), (2, .ref y), (1, .ref z), (0, .ref b)] → W p l e room_1 s m #[Value.ref b] below meth c H1 locs1 (cells + 1) (slots + 6) Q (F0 m 944 ls1 [])) : W p l e room_1 s m #[Value.ref b] below meth c H locs cells slots Q (F0 m 721 ls []) := by
  have pC := hasBelow_eq C (xs (i + 1)) (xs (i + 2))
  obtain ⟨hM', pM, M'⟩ := mhasBelow_eq M (xs (i + 1)) (xs (i + 2))
  refine lv_aload_n X.1 X.2.1 dL_law_721 rfl (lv_at hl 3 rfl) ?_
  refine sc_ld X hX hbl I.2.2.2.2.2.2.2 hl 4 0 (k := 1) (kc := 1) rfl rfl rfl (by omega) hLb dL_law_722 dL_law_723 dL_law_725 (fun h => lv_iconst (v := 1) X.1 X.2.1 dL_law_725 (by decide) h) dL_law_726 dL_law_727 ?_
  refine sc_ld X hX hbl I.2.2.2.2.2.2.2 hl 4 0 (k := 2) (kc := 2) rfl rfl rfl (by omega) hLb dL_law_728 dL_law_729 dL_law_731 (fun h => lv_iconst (v := 2) X.1 X.2.1 dL_law_731 (by decide) h) dL_law_732 dL_law_733 ?_
  refine hq_ci I.yC (hp_runV X I.yC (ci := 5) (As := [.int (xs (i + 1)), .int (xs (i + 2))]) (n := 2) (T := TX5) (N := 6) (mX5_hasBelow l G pC) rfl (oX5_hasBelow pC) gL_law_X5_hasBelow rfl rfl rfl ndX5_hasBelow ⟨Nat.le_of_ble_eq_true rfl, Nat.le_of_ble_eq_true rfl⟩ rfl hl.1 rfl (Nat.le_of_ble_eq_true rfl) dL_law_734 ⟨by show _ ≤ 601024; omega, by show _ ≤ 7293033; omega⟩) (fun H locs Y hle hk => ?_)
  have I := I.setC Y hle hk
  refine lv_aload_n X.1 X.2.1 dL_law_737 rfl (lv_at hl 2 rfl) ?_
  refine sc_ld X hX hbl I.2.2.2.2.2.2.2 hl 4 0 (k := 1) (kc := 1) rfl rfl rfl (by omega) hLb dL_law_738 dL_law_739 dL_law_741 (fun h => lv_iconst (v := 1) X.1 X.2.1 dL_law_741 (by decide) h) dL_law_742 dL_law_743 ?_
  refine sc_ld X hX hbl I.2.2.2.2.2.2.2 hl 4 0 (k := 2) (kc := 2) rfl rfl rfl (by omega) hLb dL_law_744 dL_law_745 dL_law_747 (fun h => lv_iconst (v := 2) X.1 X.2.1 dL_law_747 (by decide) h) dL_law_748 dL_law_749 ?_
  refine hq_ci I.yM (hp_runV X I.yM (ci := 6) (As := [.int (xs (i + 1)), .int (xs (i + 2))]) (n := 2) (T := TX6) (N := 14) (mX6_hasBelow l G pM) rfl (oX6_hasBelow pM) gL_law_X6_hasBelow rfl rfl rfl ndX6_hasBelow ⟨Nat.le_of_ble_eq_true rfl, Nat.le_of_ble_eq_true rfl⟩ rfl hl.1 rfl (Nat.le_of_ble_eq_true rfl) dL_law_750 ⟨by show _ ≤ 601024; omega, by show _ ≤ 7293033; omega⟩) (fun H locs Y hle hk => ?_)
  have I := I.setM Y hle hk
  refine lv_icmp_eq (tgt := 944) X.1 X.2.1 dL_law_753 (by decide) (fun _ => ?_) (fun q => absurd rfl q)
  refine W.widen (k := cells + 1) (n := slots + 6) (by omega) (by omega) ?_
  exact kk _ _ _ _ _ _ _ _ _ _ I C M' hl
set_option maxHeartbeats 4000000 in
set_option maxRecDepth 100000 in
theorem law_12 {p : Program} {l : Launch} {e : Env} {s : State} {m : MethodId} {below : List Frame} {meth : Method} {c : Code} {b L : Nat} {xs : Nat → Int32} {G : hp_G} {Q : State → Prop} {y w z n i cells slots : Nat} {hC hM : hp_H} {f : Nat → Int64} {R : Nat → Int} {T : Nat → Nat} {t : Int32} {H : Heap} {locs : List Loc} {ls : Array Slot} (X : hp_X p s m #[Value.ref b] meth c code 7 RL wsL_law ret G) (hX : va_X b L xs s s.heap) (hbl : b < s.heap.size) (hLb : L ≤ 3072) (hi : i + 6 ≤ L) (hcell : cells + 1 ≤ 601024) (hslot : slots + 6 ≤ 7293033) (I : LI G s y w hC hM f H locs) (C : cs hC z R T n) (M : ms hM y R T n t) (hl : lv_has ls 7 [(4, .int (nI i)), (3, .ref w), (2, .ref y), (1, .ref z), (0, .ref b)])
    (kk : ∀ (hC' hM' : hp_H) (f' : Nat → Int64) (R' : Nat → Int) (T' : Nat → Nat) (n' : Nat) (t' : Int32) (H1 : Heap) (locs1 : List Loc) (ls1 : Array Slot), LI G s y w hC' hM' f' H1 locs1 → cs hC' z R' T' n' → ms hM' y R' T' n' t' → lv_has ls1 7 [(4, .int (nI i)), (3, .ref w), (2, .ref y), (1, .ref z), (0, .ref b)] → W p l e room_1 s m #[Value.ref b] below meth c H1 locs1 (cells + 1) (slots + 6) Q (F0 m 944 ls1 [])) : W p l e room_1 s m #[Value.ref b] below meth c H locs cells slots Q (F0 m 758 ls []) := by
  have pC := low_eq C (xs (i + 1))
  obtain ⟨hM', pM, M'⟩ := mlow_eq M (xs (i + 1))
  refine lv_aload_n X.1 X.2.1 dL_law_758 rfl (lv_at hl 3 rfl) ?_
  refine sc_ld X hX hbl I.2.2.2.2.2.2.2 hl 4 0 (k := 1) (kc := 1) rfl rfl rfl (by omega) hLb dL_law_759 dL_law_760 dL_law_762 (fun h => lv_iconst (v := 1) X.1 X.2.1 dL_law_762 (by decide) h) dL_law_763 dL_law_764 ?_
  refine hq_cj I.yC (hp_runV X I.yC (ci := 5) (As := [.int (xs (i + 1))]) (n := 1) (T := TX5) (N := 6) (mX5_low l G pC) rfl (oX5_low pC) gL_law_X5_low rfl rfl rfl ndX5_low ⟨Nat.le_of_ble_eq_true rfl, Nat.le_of_ble_eq_true rfl⟩ rfl hl.1 rfl (Nat.le_of_ble_eq_true rfl) dL_law_765 ⟨by show _ ≤ 601024; omega, by show _ ≤ 7293033; omega⟩) (fun H locs Y hle hk => ?_)
  have I := I.setC Y hle hk
  refine lv_aload_n X.1 X.2.1 dL_law_768 rfl (lv_at hl 2 rfl) ?_
  refine sc_ld X hX hbl I.2.2.2.2.2.2.2 hl 4 0 (k := 1) (kc := 1) rfl rfl rfl (by omega) hLb dL_law_769 dL_law_770 dL_law_772 (fun h => lv_iconst (v := 1) X.1 X.2.1 dL_law_772 (by decide) h) dL_law_773 dL_law_774 ?_
  refine hq_cj I.yM (hp_runV X I.yM (ci := 6) (As := [.int (xs (i + 1))]) (n := 1) (T := TX6) (N := 14) (mX6_low l G pM) rfl (oX6_low pM) gL_law_X6_low rfl rfl rfl ndX6_low ⟨Nat.le_of_ble_eq_true rfl, Nat.le_of_ble_eq_true rfl⟩ rfl hl.1 rfl (Nat.le_of_ble_eq_true rfl) dL_law_775 ⟨by show _ ≤ 601024; omega, by show _ ≤ 7293033; omega⟩) (fun H locs Y hle hk => ?_)
  have I := I.setM Y hle hk
  refine W.lcmp X.1 X.2.1 dL_law_778 ?_
  rw [lg_cmp_self]
  refine lv_if_eq (tgt := 944) X.1 X.2.1 dL_law_779 (by decide) (fun _ => ?_) (fun q => absurd rfl q)
  refine W.widen (k := cells + 1) (n := slots + 6) (by omega) (by omega) ?_
  exact kk _ _ _ _ _ _ _ _ _ _ I C M' hl
set_option maxHeartbeats 4000000 in
set_option maxRecDepth 100000 in
theorem law_13 {p : Program} {l : Launch} {e : Env} {s : State} {m : MethodId} {below : List Frame} {meth : Method} {c : Code} {b L : Nat} {xs : Nat → Int32} {G : hp_G} {Q : State → Prop} {y w z n i cells slots : Nat} {hC hM : hp_H} {f : Nat → Int64} {R : Nat → Int} {T : Nat → Nat} {t : Int32} {H : Heap} {locs : List Loc} {ls : Array Slot} (X : hp_X p s m #[Value.ref b] meth c code 7 RL wsL_law ret G) (hX : va_X b L xs s s.heap) (hbl : b < s.heap.size) (hLb : L ≤ 3072) (hi : i + 6 ≤ L) (hcell : cells + 1 ≤ 601024) (hslot : slots + 6 ≤ 7293033) (I : LI G s y w hC hM f H locs) (C : cs hC z R T n) (M : ms hM y R T n t) (hl : lv_has ls 7 [(4, .int (nI i)), (3, .ref w), (2, .ref y), (1, .ref z), (0, .ref b)])
    (kk : ∀ (hC' hM' : hp_H) (f' : Nat → Int64) (R' : Nat → Int) (T' : Nat → Nat) (n' : Nat) (t' : Int32) (H1 : Heap) (locs1 : List Loc) (ls1 : Array Slot), LI G s y w hC' hM' f' H1 locs1 → cs hC' z R' T' n' → ms hM' y R' T' n' t' → lv_has ls1 7 [(4, .int (nI i)), (3, .ref w), (2, .ref y), (1, .ref z), (0, .ref b)] → W p l e room_1 s m #[Value.ref b] below meth c H1 locs1 (cells + 1) (slots + 6) Q (F0 m 944 ls1 [])) : W p l e room_1 s m #[Value.ref b] below meth c H locs cells slots Q (F0 m 784 ls []) := by
  have pC := fits_eq C (xs (i + 1))
  obtain ⟨hM', pM, M'⟩ := mfits_eq M (xs (i + 1))
  refine lv_aload_n X.1 X.2.1 dL_law_784 rfl (lv_at hl 3 rfl) ?_
  refine sc_ld X hX hbl I.2.2.2.2.2.2.2 hl 4 0 (k := 1) (kc := 1) rfl rfl rfl (by omega) hLb dL_law_785 dL_law_786 dL_law_788 (fun h => lv_iconst (v := 1) X.1 X.2.1 dL_law_788 (by decide) h) dL_law_789 dL_law_790 ?_
  refine hq_ci I.yC (hp_runV X I.yC (ci := 5) (As := [.int (xs (i + 1))]) (n := 1) (T := TX5) (N := 6) (mX5_fits l G pC) rfl (oX5_fits pC) gL_law_X5_fits rfl rfl rfl ndX5_fits ⟨Nat.le_of_ble_eq_true rfl, Nat.le_of_ble_eq_true rfl⟩ rfl hl.1 rfl (Nat.le_of_ble_eq_true rfl) dL_law_791 ⟨by show _ ≤ 601024; omega, by show _ ≤ 7293033; omega⟩) (fun H locs Y hle hk => ?_)
  have I := I.setC Y hle hk
  refine lv_aload_n X.1 X.2.1 dL_law_794 rfl (lv_at hl 2 rfl) ?_
  refine sc_ld X hX hbl I.2.2.2.2.2.2.2 hl 4 0 (k := 1) (kc := 1) rfl rfl rfl (by omega) hLb dL_law_795 dL_law_796 dL_law_798 (fun h => lv_iconst (v := 1) X.1 X.2.1 dL_law_798 (by decide) h) dL_law_799 dL_law_800 ?_
  refine hq_ci I.yM (hp_runV X I.yM (ci := 6) (As := [.int (xs (i + 1))]) (n := 1) (T := TX6) (N := 14) (mX6_fits l G pM) rfl (oX6_fits pM) gL_law_X6_fits rfl rfl rfl ndX6_fits ⟨Nat.le_of_ble_eq_true rfl, Nat.le_of_ble_eq_true rfl⟩ rfl hl.1 rfl (Nat.le_of_ble_eq_true rfl) dL_law_801 ⟨by show _ ≤ 601024; omega, by show _ ≤ 7293033; omega⟩) (fun H locs Y hle hk => ?_)
  have I := I.setM Y hle hk
  refine lv_icmp_eq (tgt := 944) X.1 X.2.1 dL_law_804 (by decide) (fun _ => ?_) (fun q => absurd rfl q)
  refine W.widen (k := cells + 1) (n := slots + 6) (by omega) (by omega) ?_
  exact kk _ _ _ _ _ _ _ _ _ _ I C M' hl
set_option maxHeartbeats 4000000 in
set_option maxRecDepth 100000 in
theorem law_14 {p : Program} {l : Launch} {e : Env} {s : State} {m : MethodId} {below : List Frame} {meth : Method} {c : Code} {b L : Nat} {xs : Nat → Int32} {G : hp_G} {Q : State → Prop} {y w z n i cells slots : Nat} {hC hM : hp_H} {f : Nat → Int64} {R : Nat → Int} {T : Nat → Nat} {t : Int32} {H : Heap} {locs : List Loc} {ls : Array Slot} (X : hp_X p s m #[Value.ref b] meth c code 7 RL wsL_law ret G) (hX : va_X b L xs s s.heap) (hbl : b < s.heap.size) (hLb : L ≤ 3072) (hi : i + 6 ≤ L) (hcell : cells + 1 ≤ 601024) (hslot : slots + 6 ≤ 7293033) (I : LI G s y w hC hM f H locs) (C : cs hC z R T n) (M : ms hM y R T n t) (hl : lv_has ls 7 [(4, .int (nI i)), (3, .ref w), (2, .ref y), (1, .ref z), (0, .ref b)])
    (kk : ∀ (hC' hM' : hp_H) (f' : Nat → Int64) (R' : Nat → Int) (T' : Nat → Nat) (n' : Nat) (t' : Int32) (H1 : Heap) (locs1 : List Loc) (ls1 : Array Slot), LI G s y w hC' hM' f' H1 locs1 → cs hC' z R' T' n' → ms hM' y R' T' n' t' → lv_has ls1 7 [(4, .int (nI i)), (3, .ref w), (2, .ref y), (1, .ref z), (0, .ref b)] → W p l e room_1 s m #[Value.ref b] below meth c H1 locs1 (cells + 1) (slots + 6) Q (F0 m 944 ls1 [])) : W p l e room_1 s m #[Value.ref b] below meth c H locs cells slots Q (F0 m 809 ls []) := by
  obtain ⟨hC', pC, C'⟩ := write_eq C (xs (i + 1)) (xs (i + 2))
  obtain ⟨hM', pM, M'⟩ := mwrite_eq M (xs (i + 1)) (xs (i + 2))
  refine lv_aload_n X.1 X.2.1 dL_law_809 rfl (lv_at hl 3 rfl) ?_
  refine sc_ld X hX hbl I.2.2.2.2.2.2.2 hl 4 0 (k := 1) (kc := 1) rfl rfl rfl (by omega) hLb dL_law_810 dL_law_811 dL_law_813 (fun h => lv_iconst (v := 1) X.1 X.2.1 dL_law_813 (by decide) h) dL_law_814 dL_law_815 ?_
  refine sc_ld X hX hbl I.2.2.2.2.2.2.2 hl 4 0 (k := 2) (kc := 2) rfl rfl rfl (by omega) hLb dL_law_816 dL_law_817 dL_law_819 (fun h => lv_iconst (v := 2) X.1 X.2.1 dL_law_819 (by decide) h) dL_law_820 dL_law_821 ?_
  refine hq_ci I.yC (hp_runV X I.yC (ci := 5) (As := [.int (xs (i + 1)), .int (xs (i + 2))]) (n := 2) (T := TX5) (N := 6) (mX5_write l G pC) rfl (oX5_write pC) gL_law_X5_write rfl rfl rfl ndX5_write ⟨Nat.le_of_ble_eq_true rfl, Nat.le_of_ble_eq_true rfl⟩ rfl hl.1 rfl (Nat.le_of_ble_eq_true rfl) dL_law_822 ⟨by show _ ≤ 601024; omega, by show _ ≤ 7293033; omega⟩) (fun H locs Y hle hk => ?_)
  have I := I.setC Y hle hk
  refine lv_aload_n X.1 X.2.1 dL_law_825 rfl (lv_at hl 2 rfl) ?_
  refine sc_ld X hX hbl I.2.2.2.2.2.2.2 hl 4 0 (k := 1) (kc := 1) rfl rfl rfl (by omega) hLb dL_law_826 dL_law_827 dL_law_829 (fun h => lv_iconst (v := 1) X.1 X.2.1 dL_law_829 (by decide) h) dL_law_830 dL_law_831 ?_
  refine sc_ld X hX hbl I.2.2.2.2.2.2.2 hl 4 0 (k := 2) (kc := 2) rfl rfl rfl (by omega) hLb dL_law_832 dL_law_833 dL_law_835 (fun h => lv_iconst (v := 2) X.1 X.2.1 dL_law_835 (by decide) h) dL_law_836 dL_law_837 ?_
  refine hq_ci I.yM (hp_runV X I.yM (ci := 6) (As := [.int (xs (i + 1)), .int (xs (i + 2))]) (n := 2) (T := TX6) (N := 14) (mX6_write l G pM) rfl (oX6_write pM) gL_law_X6_write rfl rfl rfl ndX6_write ⟨Nat.le_of_ble_eq_true rfl, Nat.le_of_ble_eq_true rfl⟩ rfl hl.1 rfl (Nat.le_of_ble_eq_true rfl) dL_law_838 ⟨by show _ ≤ 601024; omega, by show _ ≤ 7293033; omega⟩) (fun H locs Y hle hk => ?_)
  have I := I.setM Y hle hk
  refine lv_icmp_eq (tgt := 944) X.1 X.2.1 dL_law_841 (by decide) (fun _ => ?_) (fun q => absurd rfl q)
  refine W.widen (k := cells + 1) (n := slots + 6) (by omega) (by omega) ?_
  exact kk _ _ _ _ _ _ _ _ _ _ I C' M' hl
set_option maxHeartbeats 4000000 in
set_option maxRecDepth 100000 in
theorem law_15 {p : Program} {l : Launch} {e : Env} {s : State} {m : MethodId} {below : List Frame} {meth : Method} {c : Code} {b L : Nat} {xs : Nat → Int32} {G : hp_G} {Q : State → Prop} {y w z n i cells slots : Nat} {hC hM : hp_H} {f : Nat → Int64} {R : Nat → Int} {T : Nat → Nat} {t : Int32} {H : Heap} {locs : List Loc} {ls : Array Slot} (X : hp_X p s m #[Value.ref b] meth c code 7 RL wsL_law ret G) (hX : va_X b L xs s s.heap) (hbl : b < s.heap.size) (hLb : L ≤ 3072) (hi : i + 6 ≤ L) (hcell : cells + 1 ≤ 601024) (hslot : slots + 6 ≤ 7293033) (I : LI G s y w hC hM f H locs) (C : cs hC z R T n) (M : ms hM y R T n t) (hl : lv_has ls 7 [(4, .int (nI i)), (3, .ref w), (2, .ref y), (1, .ref z), (0, .ref b)])
    (kk : ∀ (hC' hM' : hp_H) (f' : Nat → Int64) (R' : Nat → Int) (T' : Nat → Nat) (n' : Nat) (t' : Int32) (H1 : Heap) (locs1 : List Loc) (ls1 : Array Slot), LI G s y w hC' hM' f' H1 locs1 → cs hC' z R' T' n' → ms hM' y R' T' n' t' → lv_has ls1 7 [(4, .int (nI i)), (3, .ref w), (2, .ref y), (1, .ref z), (0, .ref b)] → W p l e room_1 s m #[Value.ref b] below meth c H1 locs1 (cells + 1) (slots + 6) Q (F0 m 944 ls1 [])) : W p l e room_1 s m #[Value.ref b] below meth c H locs cells slots Q (F0 m 846 ls []) := by
  obtain ⟨hC', pC, C'⟩ := type_eq C (xs (i + 1))
  obtain ⟨hM', pM, M'⟩ := mtype_eq M (xs (i + 1))
  refine lv_aload_n X.1 X.2.1 dL_law_846 rfl (lv_at hl 3 rfl) ?_
  refine sc_ld X hX hbl I.2.2.2.2.2.2.2 hl 4 0 (k := 1) (kc := 1) rfl rfl rfl (by omega) hLb dL_law_847 dL_law_848 dL_law_850 (fun h => lv_iconst (v := 1) X.1 X.2.1 dL_law_850 (by decide) h) dL_law_851 dL_law_852 ?_
  refine hq_ci I.yC (hp_runV X I.yC (ci := 5) (As := [.int (xs (i + 1))]) (n := 1) (T := TX5) (N := 6) (mX5_type l G pC) rfl (oX5_type pC) gL_law_X5_type rfl rfl rfl ndX5_type ⟨Nat.le_of_ble_eq_true rfl, Nat.le_of_ble_eq_true rfl⟩ rfl hl.1 rfl (Nat.le_of_ble_eq_true rfl) dL_law_853 ⟨by show _ ≤ 601024; omega, by show _ ≤ 7293033; omega⟩) (fun H locs Y hle hk => ?_)
  have I := I.setC Y hle hk
  refine lv_aload_n X.1 X.2.1 dL_law_856 rfl (lv_at hl 2 rfl) ?_
  refine sc_ld X hX hbl I.2.2.2.2.2.2.2 hl 4 0 (k := 1) (kc := 1) rfl rfl rfl (by omega) hLb dL_law_857 dL_law_858 dL_law_860 (fun h => lv_iconst (v := 1) X.1 X.2.1 dL_law_860 (by decide) h) dL_law_861 dL_law_862 ?_
  refine hq_ci I.yM (hp_runV X I.yM (ci := 6) (As := [.int (xs (i + 1))]) (n := 1) (T := TX6) (N := 14) (mX6_type l G pM) rfl (oX6_type pM) gL_law_X6_type rfl rfl rfl ndX6_type ⟨Nat.le_of_ble_eq_true rfl, Nat.le_of_ble_eq_true rfl⟩ rfl hl.1 rfl (Nat.le_of_ble_eq_true rfl) dL_law_863 ⟨by show _ ≤ 601024; omega, by show _ ≤ 7293033; omega⟩) (fun H locs Y hle hk => ?_)
  have I := I.setM Y hle hk
  refine lv_icmp_eq (tgt := 944) X.1 X.2.1 dL_law_866 (by decide) (fun _ => ?_) (fun q => absurd rfl q)
  refine W.widen (k := cells + 1) (n := slots + 6) (by omega) (by omega) ?_
  exact kk _ _ _ _ _ _ _ _ _ _ I C' M' hl
set_option maxHeartbeats 4000000 in
set_option maxRecDepth 100000 in
theorem law_16 {p : Program} {l : Launch} {e : Env} {s : State} {m : MethodId} {below : List Frame} {meth : Method} {c : Code} {b L : Nat} {xs : Nat → Int32} {G : hp_G} {Q : State → Prop} {y w z n i cells slots : Nat} {hC hM : hp_H} {f : Nat → Int64} {R : Nat → Int} {T : Nat → Nat} {t : Int32} {H : Heap} {locs : List Loc} {ls : Array Slot} (X : hp_X p s m #[Value.ref b] meth c code 7 RL wsL_law ret G) (hX : va_X b L xs s s.heap) (hbl : b < s.heap.size) (hLb : L ≤ 3072) (hi : i + 6 ≤ L) (hcell : cells + 1 ≤ 601024) (hslot : slots + 6 ≤ 7293033) (I : LI G s y w hC hM f H locs) (C : cs hC z R T n) (M : ms hM y R T n t) (hl : lv_has ls 7 [(4, .int (nI i)), (3, .ref w), (2, .ref y), (1, .ref z), (0, .ref b)])
    (kk : ∀ (hC' hM' : hp_H) (f' : Nat → Int64) (R' : Nat → Int) (T' : Nat → Nat) (n' : Nat) (t' : Int32) (H1 : Heap) (locs1 : List Loc) (ls1 : Array Slot), LI G s y w hC' hM' f' H1 locs1 → cs hC' z R' T' n' → ms hM' y R' T' n' t' → lv_has ls1 7 [(4, .int (nI i)), (3, .ref w), (2, .ref y), (1, .ref z), (0, .ref b)] → W p l e room_1 s m #[Value.ref b] below meth c H1 locs1 (cells + 1) (slots + 6) Q (F0 m 944 ls1 [])) : W p l e room_1 s m #[Value.ref b] below meth c H locs cells slots Q (F0 m 871 ls []) := by
  obtain ⟨hC', pC, C'⟩ := clear_eq C 
  obtain ⟨hM', pM, M'⟩ := mclear_eq M 
  refine lv_aload_n X.1 X.2.1 dL_law_871 rfl (lv_at hl 3 rfl) ?_
  refine hq_cv I.yC (hp_runV X I.yC (ci := 5) (As := []) (n := 0) (T := TX5) (N := 6) (mX5_clear l G pC) rfl (oX5_clear pC) gL_law_X5_clear rfl rfl rfl ndX5_clear ⟨Nat.le_of_ble_eq_true rfl, Nat.le_of_ble_eq_true rfl⟩ rfl hl.1 rfl (Nat.le_of_ble_eq_true rfl) dL_law_872 ⟨by show _ ≤ 601024; omega, by show _ ≤ 7293033; omega⟩) (fun H locs Y hle hk => ?_)
  have I := I.setC Y hle hk
  refine lv_aload_n X.1 X.2.1 dL_law_875 rfl (lv_at hl 2 rfl) ?_
  refine hq_cv I.yM (hp_runV X I.yM (ci := 6) (As := []) (n := 0) (T := TX6) (N := 14) (mX6_clear l G pM) rfl (oX6_clear pM) gL_law_X6_clear rfl rfl rfl ndX6_clear ⟨Nat.le_of_ble_eq_true rfl, Nat.le_of_ble_eq_true rfl⟩ rfl hl.1 rfl (Nat.le_of_ble_eq_true rfl) dL_law_876 ⟨by show _ ≤ 601024; omega, by show _ ≤ 7293033; omega⟩) (fun H locs Y hle hk => ?_)
  have I := I.setM Y hle hk
  refine lv_goto (tgt := 944) X.1 X.2.1 dL_law_879 (by decide) ?_
  refine W.widen (k := cells + 1) (n := slots + 6) (by omega) (by omega) ?_
  exact kk _ _ _ _ _ _ _ _ _ _ I C' M' hl
set_option maxHeartbeats 4000000 in
set_option maxRecDepth 100000 in
theorem law_17 {p : Program} {l : Launch} {e : Env} {s : State} {m : MethodId} {below : List Frame} {meth : Method} {c : Code} {b L : Nat} {xs : Nat → Int32} {G : hp_G} {Q : State → Prop} {y w z n i cells slots : Nat} {hC hM : hp_H} {f : Nat → Int64} {R : Nat → Int} {T : Nat → Nat} {t : Int32} {H : Heap} {locs : List Loc} {ls : Array Slot} (X : hp_X p s m #[Value.ref b] meth c code 7 RL wsL_law ret G) (hX : va_X b L xs s s.heap) (hbl : b < s.heap.size) (hLb : L ≤ 3072) (hi : i + 6 ≤ L) (hcell : cells + 1 ≤ 601024) (hslot : slots + 6 ≤ 7293033) (I : LI G s y w hC hM f H locs) (C : cs hC z R T n) (M : ms hM y R T n t) (hl : lv_has ls 7 [(4, .int (nI i)), (3, .ref w), (2, .ref y), (1, .ref z), (0, .ref b)])
    (kk : ∀ (hC' hM' : hp_H) (f' : Nat → Int64) (R' : Nat → Int) (T' : Nat → Nat) (n' : Nat) (t' : Int32) (H1 : Heap) (locs1 : List Loc) (ls1 : Array Slot), LI G s y w hC' hM' f' H1 locs1 → cs hC' z R' T' n' → ms hM' y R' T' n' t' → lv_has ls1 7 [(4, .int (nI i)), (3, .ref w), (2, .ref y), (1, .ref z), (0, .ref b)] → W p l e room_1 s m #[Value.ref b] below meth c H1 locs1 (cells + 1) (slots + 6) Q (F0 m 944 ls1 [])) : W p l e room_1 s m #[Value.ref b] below meth c H locs cells slots Q (F0 m 882 ls []) := by
  have pC := character_eq C (xs (i + 1))
  obtain ⟨hM', pM, M'⟩ := mcharacter_eq M (xs (i + 1))
  refine lv_aload_n X.1 X.2.1 dL_law_882 rfl (lv_at hl 3 rfl) ?_
  refine sc_ld X hX hbl I.2.2.2.2.2.2.2 hl 4 0 (k := 1) (kc := 1) rfl rfl rfl (by omega) hLb dL_law_883 dL_law_884 dL_law_886 (fun h => lv_iconst (v := 1) X.1 X.2.1 dL_law_886 (by decide) h) dL_law_887 dL_law_888 ?_
  refine hq_ci I.yC (hp_runV X I.yC (ci := 5) (As := [.int (xs (i + 1))]) (n := 1) (T := TX5) (N := 6) (mX5_character l G pC) rfl (oX5_character pC) gL_law_X5_character rfl rfl rfl ndX5_character ⟨Nat.le_of_ble_eq_true rfl, Nat.le_of_ble_eq_true rfl⟩ rfl hl.1 rfl (Nat.le_of_ble_eq_true rfl) dL_law_889 ⟨by show _ ≤ 601024; omega, by show _ ≤ 7293033; omega⟩) (fun H locs Y hle hk => ?_)
  have I := I.setC Y hle hk
  refine lv_aload_n X.1 X.2.1 dL_law_892 rfl (lv_at hl 2 rfl) ?_
  refine sc_ld X hX hbl I.2.2.2.2.2.2.2 hl 4 0 (k := 1) (kc := 1) rfl rfl rfl (by omega) hLb dL_law_893 dL_law_894 dL_law_896 (fun h => lv_iconst (v := 1) X.1 X.2.1 dL_law_896 (by decide) h) dL_law_897 dL_law_898 ?_
  refine hq_ci I.yM (hp_runV X I.yM (ci := 6) (As := [.int (xs (i + 1))]) (n := 1) (T := TX6) (N := 14) (mX6_character l G pM) rfl (oX6_character pM) gL_law_X6_character rfl rfl rfl ndX6_character ⟨Nat.le_of_ble_eq_true rfl, Nat.le_of_ble_eq_true rfl⟩ rfl hl.1 rfl (Nat.le_of_ble_eq_true rfl) dL_law_899 ⟨by show _ ≤ 601024; omega, by show _ ≤ 7293033; omega⟩) (fun H locs Y hle hk => ?_)
  have I := I.setM Y hle hk
  refine lv_icmp_eq (tgt := 944) X.1 X.2.1 dL_law_902 (by decide) (fun _ => ?_) (fun q => absurd rfl q)
  refine W.widen (k := cells + 1) (n := slots + 6) (by omega) (by omega) ?_
  exact kk _ _ _ _ _ _ _ _ _ _ I C M' hl
set_option maxHeartbeats 4000000 in
set_option maxRecDepth 100000 in
theorem law_18 {p : Program} {l : Launch} {e : Env} {s : State} {m : MethodId} {below : List Frame} {meth : Method} {c : Code} {b L : Nat} {xs : Nat → Int32} {G : hp_G} {Q : State → Prop} {y w z n i cells slots : Nat} {hC hM : hp_H} {f : Nat → Int64} {R : Nat → Int} {T : Nat → Nat} {t : Int32} {H : Heap} {locs : List Loc} {ls : Array Slot} (X : hp_X p s m #[Value.ref b] meth c code 7 RL wsL_law ret G) (hX : va_X b L xs s s.heap) (hbl : b < s.heap.size) (hLb : L ≤ 3072) (hi : i + 6 ≤ L) (hcell : cells + 1 ≤ 601024) (hslot : slots + 6 ≤ 7293033) (I : LI G s y w hC hM f H locs) (C : cs hC z R T n) (M : ms hM y R T n t) (hl : lv_has ls 7 [(4, .int (nI i)), (3, .ref w), (2, .ref y), (1, .ref z), (0, .ref b)])
    (kk : ∀ (hC' hM' : hp_H) (f' : Nat → Int64) (R' : Nat → Int) (T' : Nat → Nat) (n' : Nat) (t' : Int32) (H1 : Heap) (locs1 : List Loc) (ls1 : Array Slot), LI G s y w hC' hM' f' H1 locs1 → cs hC' z R' T' n' → ms hM' y R' T' n' t' → lv_has ls1 7 [(4, .int (nI i)), (3, .ref w), (2, .ref y), (1, .ref z), (0, .ref b)] → W p l e room_1 s m #[Value.ref b] below meth c H1 locs1 (cells + 1) (slots + 6) Q (F0 m 944 ls1 [])) : W p l e room_1 s m #[Value.ref b] below meth c H locs cells slots Q (F0 m 907 ls []) := by
  obtain ⟨hC', pC, C'⟩ := read_eq C (xs (i + 1)) (xs (i + 2))
  obtain ⟨hM', pM, M'⟩ := mread_eq M (xs (i + 1)) (xs (i + 2))
  refine lv_aload_n X.1 X.2.1 dL_law_907 rfl (lv_at hl 3 rfl) ?_
  refine sc_ld X hX hbl I.2.2.2.2.2.2.2 hl 4 0 (k := 1) (kc := 1) rfl rfl rfl (by omega) hLb dL_law_908 dL_law_909 dL_law_911 (fun h => lv_iconst (v := 1) X.1 X.2.1 dL_law_911 (by decide) h) dL_law_912 dL_law_913 ?_
  refine sc_ld X hX hbl I.2.2.2.2.2.2.2 hl 4 0 (k := 2) (kc := 2) rfl rfl rfl (by omega) hLb dL_law_914 dL_law_915 dL_law_917 (fun h => lv_iconst (v := 2) X.1 X.2.1 dL_law_917 (by decide) h) dL_law_918 dL_law_919 ?_
  refine hq_ci I.yC (hp_runV X I.yC (ci := 5) (As := [.int (xs (i + 1)), .int (xs (i + 2))]) (n := 2) (T := TX5) (N := 6) (mX5_read l G pC) rfl (oX5_read pC) gL_law_X5_read rfl rfl rfl ndX5_read ⟨Nat.le_of_ble_eq_true rfl, Nat.le_of_ble_eq_true rfl⟩ rfl hl.1 rfl (Nat.le_of_ble_eq_true rfl) dL_law_920 ⟨by show _ ≤ 601024; omega, by show _ ≤ 7293033; omega⟩) (fun H locs Y hle hk => ?_)
  have I := I.setC Y hle hk
  refine lv_aload_n X.1 X.2.1 dL_law_923 rfl (lv_at hl 2 rfl) ?_
  refine sc_ld X hX hbl I.2.2.2.2.2.2.2 hl 4 0 (k := 1) (kc := 1) rfl rfl rfl (by omega) hLb dL_law_924 dL_law_925 dL_law_927 (fun h => lv_iconst (v := 1) X.1 X.2.1 dL_law_927 (by decide) h) dL_law_928 dL_law_929 ?_
  refine sc_ld X hX hbl I.2.2.2.2.2.2.2 hl 4 0 (k := 2) (kc := 2) rfl rfl rfl (by omega) hLb dL_law_930 dL_law_931 dL_law_933 (fun h => lv_iconst (v := 2) X.1 X.2.1 dL_law_933 (by decide) h) dL_law_934 dL_law_935 ?_
  refine hq_ci I.yM (hp_runV X I.yM (ci := 6) (As := [.int (xs (i + 1)), .int (xs (i + 2))]) (n := 2) (T := TX6) (N := 14) (mX6_read l G pM) rfl (oX6_read pM) gL_law_X6_read rfl rfl rfl ndX6_read ⟨Nat.le_of_ble_eq_true rfl, Nat.le_of_ble_eq_true rfl⟩ rfl hl.1 rfl (Nat.le_of_ble_eq_true rfl) dL_law_936 ⟨by show _ ≤ 601024; omega, by show _ ≤ 7293033; omega⟩) (fun H locs Y hle hk => ?_)
  have I := I.setM Y hle hk
  refine lv_icmp_eq (tgt := 944) X.1 X.2.1 dL_law_939 (by decide) (fun _ => ?_) (fun q => absurd rfl q)
  refine W.widen (k := cells + 1) (n := slots + 6) (by omega) (by omega) ?_
  exact kk _ _ _ _ _ _ _ _ _ _ I C' M' hl
set_option maxHeartbeats 4000000 in
set_option maxRecDepth 100000 in
theorem law_2 {p : Program} {l : Launch} {e : Env} {s : State} {m : MethodId} {below : List Frame} {meth : Method} {c : Code} {b L : Nat} {xs : Nat → Int32} {G : hp_G} {Q : State → Prop} {y w z n i cells slots : Nat} {hC hM : hp_H} {f : Nat → Int64} {R : Nat → Int} {T : Nat → Nat} {t : Int32} {H : Heap} {locs : List Loc} {ls : Array Slot} (hst : l.stackTraces = false) (TW : hp_TW (hp_A (hU0 s)) s) (X : hp_X p s m #[Value.ref b] meth c code 7 RL wsL_law ret G) (hX : va_X b L xs s s.heap) (hbl : b < s.heap.size) (hLb : L ≤ 3072) (hi : i + 6 ≤ L) (hcell : cells + 1 ≤ 601024) (hslot : slots + 6 ≤ 7293033) (I : LI G s y w hC hM f H locs) (C : cs hC z R T n) (M : ms hM y R T n t) (hl : lv_has ls 7 [(4, .int (nI i)), (3, .ref w), (2, .ref y), (1, .ref z), (0, .ref b)])
    (kk : ∀ (hC' hM' : hp_H) (f' : Nat → Int64) (R' : Nat → Int) (T' : Nat → Nat) (n' : Nat) (t' : Int32) (H1 : Heap) (locs1 : List Loc) (ls1 : Array Slot), LI G s y w hC' hM' f' H1 locs1 → cs hC' z R' T' n' → ms hM' y R' T' n' t' → lv_has ls1 7 [(4, .int (nI i)), (3, .ref w), (2, .ref y), (1, .ref z), (0, .ref b)] → W p l e room_1 s m #[Value.ref b] below meth c H1 locs1 (cells + 1) (slots + 6) Q (F0 m 944 ls1 [])) : W p l e room_1 s m #[Value.ref b] below meth c H locs cells slots Q (F0 m 262 ls []) := by
  rcases hD : sDivide R (xs (i + 1)) (xs (i + 2)) (xs (i + 3)) (xs (i + 4)) (bz (xs (i + 5))) with _ | ⟨r0, R0⟩
  · obtain ⟨hM', pM, M'⟩ := (mdivide_eq M (xs (i + 1)) (xs (i + 2)) (xs (i + 3)) (xs (i + 4)) (bz (xs (i + 5)))).2 hD
    refine lv_aload_n X.1 X.2.1 dL_law_262 rfl (lv_at hl 3 rfl) ?_
    refine sc_ld X hX hbl I.2.2.2.2.2.2.2 hl 4 0 (k := 1) (kc := 1) rfl rfl rfl (by omega) hLb dL_law_263 dL_law_264 dL_law_266 (fun h => lv_iconst (v := 1) X.1 X.2.1 dL_law_266 (by decide) h) dL_law_267 dL_law_268 ?_
    refine sc_ld X hX hbl I.2.2.2.2.2.2.2 hl 4 0 (k := 2) (kc := 2) rfl rfl rfl (by omega) hLb dL_law_269 dL_law_270 dL_law_272 (fun h => lv_iconst (v := 2) X.1 X.2.1 dL_law_272 (by decide) h) dL_law_273 dL_law_274 ?_
    refine sc_ld X hX hbl I.2.2.2.2.2.2.2 hl 4 0 (k := 3) (kc := 3) rfl rfl rfl (by omega) hLb dL_law_275 dL_law_276 dL_law_278 (fun h => lv_iconst (v := 3) X.1 X.2.1 dL_law_278 (by decide) h) dL_law_279 dL_law_280 ?_
    refine sc_ld X hX hbl I.2.2.2.2.2.2.2 hl 4 0 (k := 4) (kc := 4) rfl rfl rfl (by omega) hLb dL_law_281 dL_law_282 dL_law_284 (fun h => lv_iconst (v := 4) X.1 X.2.1 dL_law_284 (by decide) h) dL_law_285 dL_law_286 ?_
    refine sc_ld X hX hbl I.2.2.2.2.2.2.2 hl 4 0 (k := 5) (kc := 5) rfl rfl rfl (by omega) hLb dL_law_287 dL_law_288 dL_law_290 (fun h => lv_iconst (v := 5) X.1 X.2.1 dL_law_290 (by decide) h) dL_law_291 dL_law_292 ?_
    refine bz_ld X rfl rfl dL_law_293 dL_law_296 dL_law_297 dL_law_300 ?_
    refine lv_aload_n X.1 X.2.1 dL_law_301 rfl (lv_at hl 1 rfl) ?_
    refine va_calli (vx_runSW (As := [.ref z, .int (xs (i + 1)), .int (xs (i + 2)), .int (xs (i + 3)), .int (xs (i + 4)), .int (bz (xs (i + 5))), .ref w]) ⟨X.1, X.2.1, X.2.2.1, X.2.2.2.1, X.2.2.2.2.1⟩ (t2L_divide l hst G I.nw C hD (f := f)) (vx_cwSW 7 X.2.2.2.2.1 gL_law_L_divide rfl rfl rfl ndL_divide ⟨Nat.le_of_ble_eq_true rfl, Nat.le_of_ble_eq_true rfl⟩) ⟨hp_blindT G _ _ _, fun U hU hW => ⟨rfl, ⟨by rw [hU]; exact I.yW.1, va_K.moved hW.alike X.2.2.2.2.2.1⟩, (TW.go I.yW.2.2 hU hW).narrow (fun q hq => I.yW.2.1 q hq)⟩⟩ rfl rfl hl.1 rfl (lv_room (Nat.le_of_ble_eq_true rfl)) dL_law_302 ⟨by show _ ≤ 601024; omega, by show _ ≤ 7293033; omega⟩) I.yW.2.2 (fun q _ z => I.yW.2.1 q z) I.yW.2.1 (fun r1 u1 t1 H1 locs1 ht1 hvm1 hp1 hB1 hz1 hk1 hS1 => ?_)
    obtain ⟨rfl, rfl⟩ := hp1
    have I := I.setW (hp_back I.yW ht1 hB1 hS1) hp_le.rf hk1
    refine W.widen (k := cells + 1) (n := slots + 6) (by omega) (by omega) ?_
    refine lv_istore (lv' := [(5, .int 1), (4, .int (nI i)), (3, .ref w), (2, .ref y), (1, .ref z), (0, .ref b)]) X.1 X.2.1 dL_law_305 hl (by decide) rfl (fun ls hl => ?_)
    refine lv_aload_n X.1 X.2.1 dL_law_307 rfl (lv_at hl 3 rfl) ?_
    refine sc_ld X hX hbl I.2.2.2.2.2.2.2 hl 5 1 (k := 1) (kc := 1) rfl rfl rfl (by omega) hLb dL_law_308 dL_law_309 dL_law_311 (fun h => lv_iconst (v := 1) X.1 X.2.1 dL_law_311 (by decide) h) dL_law_312 dL_law_313 ?_
    refine sc_ld X hX hbl I.2.2.2.2.2.2.2 hl 5 1 (k := 2) (kc := 2) rfl rfl rfl (by omega) hLb dL_law_314 dL_law_315 dL_law_317 (fun h => lv_iconst (v := 2) X.1 X.2.1 dL_law_317 (by decide) h) dL_law_318 dL_law_319 ?_
    refine sc_ld X hX hbl I.2.2.2.2.2.2.2 hl 5 1 (k := 3) (kc := 3) rfl rfl rfl (by omega) hLb dL_law_320 dL_law_321 dL_law_323 (fun h => lv_iconst (v := 3) X.1 X.2.1 dL_law_323 (by decide) h) dL_law_324 dL_law_325 ?_
    refine sc_ld X hX hbl I.2.2.2.2.2.2.2 hl 5 1 (k := 4) (kc := 4) rfl rfl rfl (by omega) hLb dL_law_326 dL_law_327 dL_law_329 (fun h => lv_iconst (v := 4) X.1 X.2.1 dL_law_329 (by decide) h) dL_law_330 dL_law_331 ?_
    refine sc_ld X hX hbl I.2.2.2.2.2.2.2 hl 5 1 (k := 5) (kc := 5) rfl rfl rfl (by omega) hLb dL_law_332 dL_law_333 dL_law_335 (fun h => lv_iconst (v := 5) X.1 X.2.1 dL_law_335 (by decide) h) dL_law_336 dL_law_337 ?_
    refine bz_ld X rfl rfl dL_law_338 dL_law_341 dL_law_342 dL_law_345 ?_
    refine hq_ci I.yM (hp_runV X I.yM (ci := 6) (As := [.int (xs (i + 1)), .int (xs (i + 2)), .int (xs (i + 3)), .int (xs (i + 4)), .int (bz (xs (i + 5)))]) (n := 5) (T := TX6) (N := 14) (mX6_divide l G pM) rfl (oX6_divide pM) gL_law_X6_divide rfl rfl rfl ndX6_divide ⟨Nat.le_of_ble_eq_true rfl, Nat.le_of_ble_eq_true rfl⟩ rfl hl.1 rfl (Nat.le_of_ble_eq_true rfl) dL_law_346 ⟨by show _ ≤ 601024; omega, by show _ ≤ 7293033; omega⟩) (fun H locs Y hle hk => ?_)
    have I := I.setM Y hle hk
    refine lv_istore (lv' := [(6, .int 0), (5, .int 1), (4, .int (nI i)), (3, .ref w), (2, .ref y), (1, .ref z), (0, .ref b)]) X.1 X.2.1 dL_law_349 hl (by decide) rfl (fun ls hl => ?_)
    refine lv_aload_n X.1 X.2.1 dL_law_351 rfl (lv_at hl 4 rfl) ?_
    have pT := mthrown_eq M'
    refine hq_ci I.yM (hp_runV X I.yM (ci := 6) (As := []) (n := 0) (T := TX6) (N := 14) (mX6_thrown l G pT) rfl (oX6_thrown pT) gL_law_X6_thrown rfl rfl rfl ndX6_thrown ⟨Nat.le_of_ble_eq_true rfl, Nat.le_of_ble_eq_true rfl⟩ rfl hl.1 rfl (Nat.le_of_ble_eq_true rfl) dL_law_352 ⟨by show _ ≤ 601024; omega, by show _ ≤ 7293033; omega⟩) (fun H locs Y hle hk => ?_)
    have I := I.setM Y hle hk
    refine lv_iload X.1 X.2.1 dL_law_355 (lv_at hl 1 rfl) ?_
    refine lv_icmp_eq (tgt := 362) X.1 X.2.1 dL_law_357 (by decide) (fun _ => ?_) (fun q => absurd rfl q)
    refine lv_iload X.1 X.2.1 dL_law_362 (lv_at hl 1 rfl) ?_
    refine lv_if_ne (tgt := 379) X.1 X.2.1 dL_law_364 (by decide) (fun _ => ?_) (fun q => absurd q (by decide))
    refine lv_goto (tgt := 944) X.1 X.2.1 dL_law_379 (by decide) ?_
    exact kk _ _ _ _ _ _ _ _ _ _ I C M' (lv_sub hl [2, 3, 4, 5, 6] rfl)
  · obtain ⟨hC', pC, C'⟩ := divide_eq C (xs (i + 1)) (xs (i + 2)) (xs (i + 3)) (xs (i + 4)) (bz (xs (i + 5))) hD
    obtain ⟨hM', pM, M'⟩ := (mdivide_eq M (xs (i + 1)) (xs (i + 2)) (xs (i + 3)) (xs (i + 4)) (bz (xs (i + 5)))).1 _ hD
    simp only [] at pC C' pM M'
    refine lv_aload_n X.1 X.2.1 dL_law_262 rfl (lv_at hl 3 rfl) ?_
    refine sc_ld X hX hbl I.2.2.2.2.2.2.2 hl 4 0 (k := 1) (kc := 1) rfl rfl rfl (by omega) hLb dL_law_263 dL_law_264 dL_law_266 (fun h => lv_iconst (v := 1) X.1 X.2.1 dL_law_266 (by decide) h) dL_law_267 dL_law_268 ?_
    refine sc_ld X hX hbl I.2.2.2.2.2.2.2 hl 4 0 (k := 2) (kc := 2) rfl rfl rfl (by omega) hLb dL_law_269 dL_law_270 dL_law_272 (fun h => lv_iconst (v := 2) X.1 X.2.1 dL_law_272 (by decide) h) dL_law_273 dL_law_274 ?_
    refine sc_ld X hX hbl I.2.2.2.2.2.2.2 hl 4 0 (k := 3) (kc := 3) rfl rfl rfl (by omega) hLb dL_law_275 dL_law_276 dL_law_278 (fun h => lv_iconst (v := 3) X.1 X.2.1 dL_law_278 (by decide) h) dL_law_279 dL_law_280 ?_
    refine sc_ld X hX hbl I.2.2.2.2.2.2.2 hl 4 0 (k := 4) (kc := 4) rfl rfl rfl (by omega) hLb dL_law_281 dL_law_282 dL_law_284 (fun h => lv_iconst (v := 4) X.1 X.2.1 dL_law_284 (by decide) h) dL_law_285 dL_law_286 ?_
    refine sc_ld X hX hbl I.2.2.2.2.2.2.2 hl 4 0 (k := 5) (kc := 5) rfl rfl rfl (by omega) hLb dL_law_287 dL_law_288 dL_law_290 (fun h => lv_iconst (v := 5) X.1 X.2.1 dL_law_290 (by decide) h) dL_law_291 dL_law_292 ?_
    refine bz_ld X rfl rfl dL_law_293 dL_law_296 dL_law_297 dL_law_300 ?_
    refine lv_aload_n X.1 X.2.1 dL_law_301 rfl (lv_at hl 1 rfl) ?_
    refine va_calli (vx_runSW (As := [.ref z, .int (xs (i + 1)), .int (xs (i + 2)), .int (xs (i + 3)), .int (xs (i + 4)), .int (bz (xs (i + 5))), .ref w]) ⟨X.1, X.2.1, X.2.2.1, X.2.2.2.1, X.2.2.2.2.1⟩ (s2L_divide l G I.nw pC (f := f)) (vx_cwSW 7 X.2.2.2.2.1 gL_law_L_divide rfl rfl rfl ndL_divide ⟨Nat.le_of_ble_eq_true rfl, Nat.le_of_ble_eq_true rfl⟩) ⟨hp_blindT G _ _ _, fun U hU hW => ⟨rfl, ⟨by rw [hU]; exact I.yW.1, va_K.moved hW.alike X.2.2.2.2.2.1⟩, (TW.go I.yW.2.2 hU hW).narrow (fun q hq => I.yW.2.1 q hq)⟩⟩ rfl rfl hl.1 rfl (lv_room (Nat.le_of_ble_eq_true rfl)) dL_law_302 ⟨by show _ ≤ 601024; omega, by show _ ≤ 7293033; omega⟩) I.yW.2.2 (fun q _ z => I.yW.2.1 q z) I.yW.2.1 (fun r1 u1 t1 H1 locs1 ht1 hvm1 hp1 hB1 hz1 hk1 hS1 => ?_)
    obtain ⟨rfl, rfl, hle1⟩ := hp1
    have I := I.setW (hp_back I.yW ht1 hB1 hS1) hle1 hk1
    refine W.widen (k := cells + 1) (n := slots + 6) (by omega) (by omega) ?_
    refine lv_istore (lv' := [(5, .int 0), (4, .int (nI i)), (3, .ref w), (2, .ref y), (1, .ref z), (0, .ref b)]) X.1 X.2.1 dL_law_305 hl (by decide) rfl (fun ls hl => ?_)
    refine lv_aload_n X.1 X.2.1 dL_law_307 rfl (lv_at hl 3 rfl) ?_
    refine sc_ld X hX hbl I.2.2.2.2.2.2.2 hl 5 1 (k := 1) (kc := 1) rfl rfl rfl (by omega) hLb dL_law_308 dL_law_309 dL_law_311 (fun h => lv_iconst (v := 1) X.1 X.2.1 dL_law_311 (by decide) h) dL_law_312 dL_law_313 ?_
    refine sc_ld X hX hbl I.2.2.2.2.2.2.2 hl 5 1 (k := 2) (kc := 2) rfl rfl rfl (by omega) hLb dL_law_314 dL_law_315 dL_law_317 (fun h => lv_iconst (v := 2) X.1 X.2.1 dL_law_317 (by decide) h) dL_law_318 dL_law_319 ?_
    refine sc_ld X hX hbl I.2.2.2.2.2.2.2 hl 5 1 (k := 3) (kc := 3) rfl rfl rfl (by omega) hLb dL_law_320 dL_law_321 dL_law_323 (fun h => lv_iconst (v := 3) X.1 X.2.1 dL_law_323 (by decide) h) dL_law_324 dL_law_325 ?_
    refine sc_ld X hX hbl I.2.2.2.2.2.2.2 hl 5 1 (k := 4) (kc := 4) rfl rfl rfl (by omega) hLb dL_law_326 dL_law_327 dL_law_329 (fun h => lv_iconst (v := 4) X.1 X.2.1 dL_law_329 (by decide) h) dL_law_330 dL_law_331 ?_
    refine sc_ld X hX hbl I.2.2.2.2.2.2.2 hl 5 1 (k := 5) (kc := 5) rfl rfl rfl (by omega) hLb dL_law_332 dL_law_333 dL_law_335 (fun h => lv_iconst (v := 5) X.1 X.2.1 dL_law_335 (by decide) h) dL_law_336 dL_law_337 ?_
    refine bz_ld X rfl rfl dL_law_338 dL_law_341 dL_law_342 dL_law_345 ?_
    refine hq_ci I.yM (hp_runV X I.yM (ci := 6) (As := [.int (xs (i + 1)), .int (xs (i + 2)), .int (xs (i + 3)), .int (xs (i + 4)), .int (bz (xs (i + 5)))]) (n := 5) (T := TX6) (N := 14) (mX6_divide l G pM) rfl (oX6_divide pM) gL_law_X6_divide rfl rfl rfl ndX6_divide ⟨Nat.le_of_ble_eq_true rfl, Nat.le_of_ble_eq_true rfl⟩ rfl hl.1 rfl (Nat.le_of_ble_eq_true rfl) dL_law_346 ⟨by show _ ≤ 601024; omega, by show _ ≤ 7293033; omega⟩) (fun H locs Y hle hk => ?_)
    have I := I.setM Y hle hk
    refine lv_istore (lv' := [(6, .int r0), (5, .int 0), (4, .int (nI i)), (3, .ref w), (2, .ref y), (1, .ref z), (0, .ref b)]) X.1 X.2.1 dL_law_349 hl (by decide) rfl (fun ls hl => ?_)
    refine lv_aload_n X.1 X.2.1 dL_law_351 rfl (lv_at hl 4 rfl) ?_
    have pT := mthrown_eq M'
    refine hq_ci I.yM (hp_runV X I.yM (ci := 6) (As := []) (n := 0) (T := TX6) (N := 14) (mX6_thrown l G pT) rfl (oX6_thrown pT) gL_law_X6_thrown rfl rfl rfl ndX6_thrown ⟨Nat.le_of_ble_eq_true rfl, Nat.le_of_ble_eq_true rfl⟩ rfl hl.1 rfl (Nat.le_of_ble_eq_true rfl) dL_law_352 ⟨by show _ ≤ 601024; omega, by show _ ≤ 7293033; omega⟩) (fun H locs Y hle hk => ?_)
    have I := I.setM Y hle hk
    refine lv_iload X.1 X.2.1 dL_law_355 (lv_at hl 1 rfl) ?_
    refine lv_icmp_eq (tgt := 362) X.1 X.2.1 dL_law_357 (by decide) (fun _ => ?_) (fun q => absurd rfl q)
    refine lv_iload X.1 X.2.1 dL_law_362 (lv_at hl 1 rfl) ?_
    refine lv_if_ne (tgt := 379) X.1 X.2.1 dL_law_364 (by decide) (fun q => absurd rfl q) (fun _ => ?_)
    refine lv_aload_n X.1 X.2.1 dL_law_367 rfl (lv_at hl 3 rfl) ?_
    refine lv_iconst (v := 0) X.1 X.2.1 dL_law_368 (by decide) ?_
    refine hp_lald0 X I.yW (hcw_w _ _ _) dL_law_369 ?_
    refine lv_iload X.1 X.2.1 dL_law_370 (lv_at hl 0 rfl) ?_
    refine lv_i2l (v := Int32.toInt64 r0) X.1 X.2.1 dL_law_372 rfl ?_
    refine W.lcmp X.1 X.2.1 dL_law_373 ?_
    rw [show vp_updL f 0 r0.toInt64 0 = r0.toInt64 from if_pos rfl, lg_cmp_self]
    refine lv_if_eq (tgt := 379) X.1 X.2.1 dL_law_374 (by decide) (fun _ => ?_) (fun q => absurd rfl q)
    refine lv_goto (tgt := 944) X.1 X.2.1 dL_law_379 (by decide) ?_
    exact kk _ _ _ _ _ _ _ _ _ _ I C' M' (lv_sub hl [2, 3, 4, 5, 6] rfl)
set_option maxHeartbeats 4000000 in
set_option maxRecDepth 100000 in
theorem law_4 {p : Program} {l : Launch} {e : Env} {s : State} {m : MethodId} {below : List Frame} {meth : Method} {c : Code} {b L : Nat} {xs : Nat → Int32} {G : hp_G} {Q : State → Prop} {y w z n i cells slots : Nat} {hC hM : hp_H} {f : Nat → Int64} {R : Nat → Int} {T : Nat → Nat} {t : Int32} {H : Heap} {locs : List Loc} {ls : Array Slot} (hst : l.stackTraces = false) (TW : hp_TW (hp_A (hU0 s)) s) (X : hp_X p s m #[Value.ref b] meth c code 7 RL wsL_law ret G) (hX : va_X b L xs s s.heap) (hbl : b < s.heap.size) (hLb : L ≤ 3072) (hi : i + 6 ≤ L) (hcell : cells + 1 ≤ 601024) (hslot : slots + 6 ≤ 7293033) (I : LI G s y w hC hM f H locs) (C : cs hC z R T n) (M : ms hM y R T n t) (hl : lv_has ls 7 [(4, .int (nI i)), (3, .ref w), (2, .ref y), (1, .ref z), (0, .ref b)])
    (kk : ∀ (hC' hM' : hp_H) (f' : Nat → Int64) (R' : Nat → Int) (T' : Nat → Nat) (n' : Nat) (t' : Int32) (H1 : Heap) (locs1 : List Loc) (ls1 : Array Slot), LI G s y w hC' hM' f' H1 locs1 → cs hC' z R' T' n' → ms hM' y R' T' n' t' → lv_has ls1 7 [(4, .int (nI i)), (3, .ref w), (2, .ref y), (1, .ref z), (0, .ref b)] → W p l e room_1 s m #[Value.ref b] below meth c H1 locs1 (cells + 1) (slots + 6) Q (F0 m 944 ls1 [])) : W p l e room_1 s m #[Value.ref b] below meth c H locs cells slots Q (F0 m 431 ls []) := by
  rcases hD : sRoot R (xs (i + 1)) (xs (i + 2)) with _ | ⟨r0, R0⟩
  · obtain ⟨hM', pM, M'⟩ := (mroot_eq M (xs (i + 1)) (xs (i + 2))).2 hD
    refine lv_aload_n X.1 X.2.1 dL_law_431 rfl (lv_at hl 3 rfl) ?_
    refine sc_ld X hX hbl I.2.2.2.2.2.2.2 hl 4 0 (k := 1) (kc := 1) rfl rfl rfl (by omega) hLb dL_law_432 dL_law_433 dL_law_435 (fun h => lv_iconst (v := 1) X.1 X.2.1 dL_law_435 (by decide) h) dL_law_436 dL_law_437 ?_
    refine sc_ld X hX hbl I.2.2.2.2.2.2.2 hl 4 0 (k := 2) (kc := 2) rfl rfl rfl (by omega) hLb dL_law_438 dL_law_439 dL_law_441 (fun h => lv_iconst (v := 2) X.1 X.2.1 dL_law_441 (by decide) h) dL_law_442 dL_law_443 ?_
    refine lv_aload_n X.1 X.2.1 dL_law_444 rfl (lv_at hl 1 rfl) ?_
    refine va_calli (vx_runSW (As := [.ref z, .int (xs (i + 1)), .int (xs (i + 2)), .ref w]) ⟨X.1, X.2.1, X.2.2.1, X.2.2.2.1, X.2.2.2.2.1⟩ (t2L_root l hst G I.nw C hD (f := f)) (vx_cwSW 4 X.2.2.2.2.1 gL_law_L_root rfl rfl rfl ndL_root ⟨Nat.le_of_ble_eq_true rfl, Nat.le_of_ble_eq_true rfl⟩) ⟨hp_blindT G _ _ _, fun U hU hW => ⟨rfl, ⟨by rw [hU]; exact I.yW.1, va_K.moved hW.alike X.2.2.2.2.2.1⟩, (TW.go I.yW.2.2 hU hW).narrow (fun q hq => I.yW.2.1 q hq)⟩⟩ rfl rfl hl.1 rfl (lv_room (Nat.le_of_ble_eq_true rfl)) dL_law_445 ⟨by show _ ≤ 601024; omega, by show _ ≤ 7293033; omega⟩) I.yW.2.2 (fun q _ z => I.yW.2.1 q z) I.yW.2.1 (fun r1 u1 t1 H1 locs1 ht1 hvm1 hp1 hB1 hz1 hk1 hS1 => ?_)
    obtain ⟨rfl, rfl⟩ := hp1
    have I := I.setW (hp_back I.yW ht1 hB1 hS1) hp_le.rf hk1
    refine W.widen (k := cells + 1) (n := slots + 6) (by omega) (by omega) ?_
    refine lv_istore (lv' := [(5, .int 1), (4, .int (nI i)), (3, .ref w), (2, .ref y), (1, .ref z), (0, .ref b)]) X.1 X.2.1 dL_law_448 hl (by decide) rfl (fun ls hl => ?_)
    refine lv_aload_n X.1 X.2.1 dL_law_450 rfl (lv_at hl 3 rfl) ?_
    refine sc_ld X hX hbl I.2.2.2.2.2.2.2 hl 5 1 (k := 1) (kc := 1) rfl rfl rfl (by omega) hLb dL_law_451 dL_law_452 dL_law_454 (fun h => lv_iconst (v := 1) X.1 X.2.1 dL_law_454 (by decide) h) dL_law_455 dL_law_456 ?_
    refine sc_ld X hX hbl I.2.2.2.2.2.2.2 hl 5 1 (k := 2) (kc := 2) rfl rfl rfl (by omega) hLb dL_law_457 dL_law_458 dL_law_460 (fun h => lv_iconst (v := 2) X.1 X.2.1 dL_law_460 (by decide) h) dL_law_461 dL_law_462 ?_
    refine hq_ci I.yM (hp_runV X I.yM (ci := 6) (As := [.int (xs (i + 1)), .int (xs (i + 2))]) (n := 2) (T := TX6) (N := 14) (mX6_root l G pM) rfl (oX6_root pM) gL_law_X6_root rfl rfl rfl ndX6_root ⟨Nat.le_of_ble_eq_true rfl, Nat.le_of_ble_eq_true rfl⟩ rfl hl.1 rfl (Nat.le_of_ble_eq_true rfl) dL_law_463 ⟨by show _ ≤ 601024; omega, by show _ ≤ 7293033; omega⟩) (fun H locs Y hle hk => ?_)
    have I := I.setM Y hle hk
    refine lv_istore (lv' := [(6, .int 0), (5, .int 1), (4, .int (nI i)), (3, .ref w), (2, .ref y), (1, .ref z), (0, .ref b)]) X.1 X.2.1 dL_law_466 hl (by decide) rfl (fun ls hl => ?_)
    refine lv_aload_n X.1 X.2.1 dL_law_468 rfl (lv_at hl 4 rfl) ?_
    have pT := mthrown_eq M'
    refine hq_ci I.yM (hp_runV X I.yM (ci := 6) (As := []) (n := 0) (T := TX6) (N := 14) (mX6_thrown l G pT) rfl (oX6_thrown pT) gL_law_X6_thrown rfl rfl rfl ndX6_thrown ⟨Nat.le_of_ble_eq_true rfl, Nat.le_of_ble_eq_true rfl⟩ rfl hl.1 rfl (Nat.le_of_ble_eq_true rfl) dL_law_469 ⟨by show _ ≤ 601024; omega, by show _ ≤ 7293033; omega⟩) (fun H locs Y hle hk => ?_)
    have I := I.setM Y hle hk
    refine lv_iload X.1 X.2.1 dL_law_472 (lv_at hl 1 rfl) ?_
    refine lv_icmp_eq (tgt := 479) X.1 X.2.1 dL_law_474 (by decide) (fun _ => ?_) (fun q => absurd rfl q)
    refine lv_iload X.1 X.2.1 dL_law_479 (lv_at hl 1 rfl) ?_
    refine lv_if_ne (tgt := 496) X.1 X.2.1 dL_law_481 (by decide) (fun _ => ?_) (fun q => absurd q (by decide))
    refine lv_goto (tgt := 944) X.1 X.2.1 dL_law_496 (by decide) ?_
    exact kk _ _ _ _ _ _ _ _ _ _ I C M' (lv_sub hl [2, 3, 4, 5, 6] rfl)
  · obtain ⟨hC', pC, C'⟩ := root_eq C (xs (i + 1)) (xs (i + 2)) hD
    obtain ⟨hM', pM, M'⟩ := (mroot_eq M (xs (i + 1)) (xs (i + 2))).1 _ hD
    simp only [] at pC C' pM M'
    refine lv_aload_n X.1 X.2.1 dL_law_431 rfl (lv_at hl 3 rfl) ?_
    refine sc_ld X hX hbl I.2.2.2.2.2.2.2 hl 4 0 (k := 1) (kc := 1) rfl rfl rfl (by omega) hLb dL_law_432 dL_law_433 dL_law_435 (fun h => lv_iconst (v := 1) X.1 X.2.1 dL_law_435 (by decide) h) dL_law_436 dL_law_437 ?_
    refine sc_ld X hX hbl I.2.2.2.2.2.2.2 hl 4 0 (k := 2) (kc := 2) rfl rfl rfl (by omega) hLb dL_law_438 dL_law_439 dL_law_441 (fun h => lv_iconst (v := 2) X.1 X.2.1 dL_law_441 (by decide) h) dL_law_442 dL_law_443 ?_
    refine lv_aload_n X.1 X.2.1 dL_law_444 rfl (lv_at hl 1 rfl) ?_
    refine va_calli (vx_runSW (As := [.ref z, .int (xs (i + 1)), .int (xs (i + 2)), .ref w]) ⟨X.1, X.2.1, X.2.2.1, X.2.2.2.1, X.2.2.2.2.1⟩ (s2L_root l G I.nw pC (f := f)) (vx_cwSW 4 X.2.2.2.2.1 gL_law_L_root rfl rfl rfl ndL_root ⟨Nat.le_of_ble_eq_true rfl, Nat.le_of_ble_eq_true rfl⟩) ⟨hp_blindT G _ _ _, fun U hU hW => ⟨rfl, ⟨by rw [hU]; exact I.yW.1, va_K.moved hW.alike X.2.2.2.2.2.1⟩, (TW.go I.yW.2.2 hU hW).narrow (fun q hq => I.yW.2.1 q hq)⟩⟩ rfl rfl hl.1 rfl (lv_room (Nat.le_of_ble_eq_true rfl)) dL_law_445 ⟨by show _ ≤ 601024; omega, by show _ ≤ 7293033; omega⟩) I.yW.2.2 (fun q _ z => I.yW.2.1 q z) I.yW.2.1 (fun r1 u1 t1 H1 locs1 ht1 hvm1 hp1 hB1 hz1 hk1 hS1 => ?_)
    obtain ⟨rfl, rfl, hle1⟩ := hp1
    have I := I.setW (hp_back I.yW ht1 hB1 hS1) hle1 hk1
    refine W.widen (k := cells + 1) (n := slots + 6) (by omega) (by omega) ?_
    refine lv_istore (lv' := [(5, .int 0), (4, .int (nI i)), (3, .ref w), (2, .ref y), (1, .ref z), (0, .ref b)]) X.1 X.2.1 dL_law_448 hl (by decide) rfl (fun ls hl => ?_)
    refine lv_aload_n X.1 X.2.1 dL_law_450 rfl (lv_at hl 3 rfl) ?_
    refine sc_ld X hX hbl I.2.2.2.2.2.2.2 hl 5 1 (k := 1) (kc := 1) rfl rfl rfl (by omega) hLb dL_law_451 dL_law_452 dL_law_454 (fun h => lv_iconst (v := 1) X.1 X.2.1 dL_law_454 (by decide) h) dL_law_455 dL_law_456 ?_
    refine sc_ld X hX hbl I.2.2.2.2.2.2.2 hl 5 1 (k := 2) (kc := 2) rfl rfl rfl (by omega) hLb dL_law_457 dL_law_458 dL_law_460 (fun h => lv_iconst (v := 2) X.1 X.2.1 dL_law_460 (by decide) h) dL_law_461 dL_law_462 ?_
    refine hq_ci I.yM (hp_runV X I.yM (ci := 6) (As := [.int (xs (i + 1)), .int (xs (i + 2))]) (n := 2) (T := TX6) (N := 14) (mX6_root l G pM) rfl (oX6_root pM) gL_law_X6_root rfl rfl rfl ndX6_root ⟨Nat.le_of_ble_eq_true rfl, Nat.le_of_ble_eq_true rfl⟩ rfl hl.1 rfl (Nat.le_of_ble_eq_true rfl) dL_law_463 ⟨by show _ ≤ 601024; omega, by show _ ≤ 7293033; omega⟩) (fun H locs Y hle hk => ?_)
    have I := I.setM Y hle hk
    refine lv_istore (lv' := [(6, .int r0), (5, .int 0), (4, .int (nI i)), (3, .ref w), (2, .ref y), (1, .ref z), (0, .ref b)]) X.1 X.2.1 dL_law_466 hl (by decide) rfl (fun ls hl => ?_)
    refine lv_aload_n X.1 X.2.1 dL_law_468 rfl (lv_at hl 4 rfl) ?_
    have pT := mthrown_eq M'
    refine hq_ci I.yM (hp_runV X I.yM (ci := 6) (As := []) (n := 0) (T := TX6) (N := 14) (mX6_thrown l G pT) rfl (oX6_thrown pT) gL_law_X6_thrown rfl rfl rfl ndX6_thrown ⟨Nat.le_of_ble_eq_true rfl, Nat.le_of_ble_eq_true rfl⟩ rfl hl.1 rfl (Nat.le_of_ble_eq_true rfl) dL_law_469 ⟨by show _ ≤ 601024; omega, by show _ ≤ 7293033; omega⟩) (fun H locs Y hle hk => ?_)
    have I := I.setM Y hle hk
    refine lv_iload X.1 X.2.1 dL_law_472 (lv_at hl 1 rfl) ?_
    refine lv_icmp_eq (tgt := 479) X.1 X.2.1 dL_law_474 (by decide) (fun _ => ?_) (fun q => absurd rfl q)
    refine lv_iload X.1 X.2.1 dL_law_479 (lv_at hl 1 rfl) ?_
    refine lv_if_ne (tgt := 496) X.1 X.2.1 dL_law_481 (by decide) (fun q => absurd rfl q) (fun _ => ?_)
    refine lv_aload_n X.1 X.2.1 dL_law_484 rfl (lv_at hl 3 rfl) ?_
    refine lv_iconst (v := 0) X.1 X.2.1 dL_law_485 (by decide) ?_
    refine hp_lald0 X I.yW (hcw_w _ _ _) dL_law_486 ?_
    refine lv_iload X.1 X.2.1 dL_law_487 (lv_at hl 0 rfl) ?_
    refine lv_i2l (v := Int32.toInt64 r0) X.1 X.2.1 dL_law_489 rfl ?_
    refine W.lcmp X.1 X.2.1 dL_law_490 ?_
    rw [show vp_updL f 0 r0.toInt64 0 = r0.toInt64 from if_pos rfl, lg_cmp_self]
    refine lv_if_eq (tgt := 496) X.1 X.2.1 dL_law_491 (by decide) (fun _ => ?_) (fun q => absurd rfl q)
    refine lv_goto (tgt := 944) X.1 X.2.1 dL_law_496 (by decide) ?_
    exact kk _ _ _ _ _ _ _ _ _ _ I C' M' (lv_sub hl [2, 3, 4, 5, 6] rfl)
