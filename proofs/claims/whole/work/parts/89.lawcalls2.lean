/-! THE LAW'S divide AND root, over the class's heap and the answer's array apart (laid by wip/lawcalls2.py) -/
/-- the class's heap with the array of one long beside it -/
def hcw (hC : hp_H) (w : Nat) (f : Nat → Int64) : hp_H := va_up hC w (some (.inr (.inl (1, f))))
theorem hcw_w (hC : hp_H) (w : Nat) (f : Nat → Int64) : hcw hC w f w = some (.inr (.inl (1, f))) := va_up_self _ _ _
theorem hcw_C {hC : hp_H} {w q : Nat} {f : Nat → Int64} (hw : hC w = none) {e : hp_C} (he : hC q = some e) : hcw hC w f q = some e := by
  unfold hcw
  rw [va_up_ne _ _ (fun h => by rw [h, hw] at he; cases he)]
  exact he
theorem hcw_le {hC : hp_H} {w : Nat} {f : Nat → Int64} (hw : hC w = none) : hp_le hC (hcw hC w f) := by
  intro q hq
  obtain ⟨e, he⟩ := Option.ne_none_iff_exists'.mp hq
  rw [hcw_C hw he]
  exact fun z => nomatch z
theorem hcw_P {G : hp_G} {hC : hp_H} {w : Nat} {f : Nat → Int64} {H : Heap} (hw : hC w = none) (hP : hp_P G (hcw hC w f) H) : hp_P G hC H := fun a e he => hP a e (hcw_C hw he)
theorem hcw_Y {G : hp_G} {hC h0 : hp_H} {w : Nat} {f : Nat → Int64} {s : State} {H : Heap} {locs : List Loc} (hw : hC w = none) (Y : hp_Y G (hcw hC w f) h0 s H locs) : hp_Y G hC h0 s H locs := ⟨hcw_P hw Y.1, fun q hq => Y.2.1 q (hcw_le hw q hq), Y.2.2⟩
/-- the class's part has changed, the array not -/
theorem hcw_back {G : hp_G} {hC hC' h0 : hp_H} {w : Nat} {f : Nat → Int64} {s : State} {H H1 : Heap} {locs locs1 : List Loc} (hw : hC w = none) (Y : hp_Y G (hcw hC w f) h0 s H locs) (Y' : hp_Y G hC' h0 s H1 locs1) (hk : ∀ q : Nat, q < H.size → ¬ hp_A hC q → H1[q]? = H[q]?) : hp_Y G (hcw hC' w f) h0 s H1 locs1 := by
  refine ⟨fun a e he => ?_, fun q hq => ?_, Y'.2.2⟩
  · by_cases ha : a = w
    · subst ha
      have h1 := Y.1 a _ (hcw_w hC a f)
      have e1 : e = .inr (.inl (1, f)) := Option.some.inj (he.symm.trans (hcw_w hC' a f))
      rw [e1]
      exact h1.kept (hk a h1.lt (fun z => z hw))
    · unfold hcw at he
      rw [va_up_ne _ _ ha] at he
      exact Y'.1 a e he
  · by_cases ha : q = w
    · subst ha; exact Y.2.1 q (by rw [hcw_w]; exact fun z => nomatch z)
    · unfold hcw at hq
      rw [va_up_ne _ _ ha] at hq
      exact Y'.2.1 q hq
section HQ
variable {p : Program} {l : Launch} {e : Env} {R : Room} {s : State} {m : MethodId} {args : Array Value} {below : List Frame} {meth : Method} {c : Code} {H : Heap} {locs : List Loc} {cells slots : Nat} {Q : State → Prop} {G : hp_G} {h h0 h' : hp_H} {pc : Nat} {ls : Array Slot} {rest : List Value}
theorem hq_ci (Y : hp_Y G h h0 s H locs) {a : Array Value} {r : Int32} {st0 : List Value} (hr : va_Run p l e R s m args below meth c H locs cells slots 0 0 (F0 m pc ls st0) rest (va_Qi (fun r' u => r' = r ∧ u = h') (hp_B G h) (hp_A h) a) (hp_A h))
    (kk : ∀ (H1 : Heap) (locs1 : List Loc), hp_Y G h' h0 s H1 locs1 → hp_le h' h → (∀ q : Nat, q < H.size → ¬ hp_A h q → H1[q]? = H[q]?) → W p l e R s m args below meth c H1 locs1 cells slots Q (F0 m (pc + 3) ls (.int r :: rest))) : W p l e R s m args below meth c H locs cells slots Q (F0 m pc ls st0) :=
  va_calli hr Y.2.2 (fun q _ z => Y.2.1 q z) Y.2.1 (fun r' u t H1 locs1 ht hvm hp hB hz hk hS => by
    obtain ⟨rfl, rfl⟩ := hp
    exact kk H1 locs1 (hp_back Y ht hB hS) hB.2.2 hk)
theorem hq_cj (Y : hp_Y G h h0 s H locs) {a : Array Value} {r : Int64} {st0 : List Value} (hr : va_Run p l e R s m args below meth c H locs cells slots 0 0 (F0 m pc ls st0) rest (va_Ql (fun r' u => r' = r ∧ u = h') (hp_B G h) (hp_A h) a) (hp_A h))
    (kk : ∀ (H1 : Heap) (locs1 : List Loc), hp_Y G h' h0 s H1 locs1 → hp_le h' h → (∀ q : Nat, q < H.size → ¬ hp_A h q → H1[q]? = H[q]?) → W p l e R s m args below meth c H1 locs1 cells slots Q (F0 m (pc + 3) ls (.long r :: rest))) : W p l e R s m args below meth c H locs cells slots Q (F0 m pc ls st0) :=
  va_calll hr Y.2.2 (fun q _ z => Y.2.1 q z) Y.2.1 (fun r' u t H1 locs1 ht hvm hp hB hz hk hS => by
    obtain ⟨rfl, rfl⟩ := hp
    exact kk H1 locs1 (hp_back Y ht hB hS) hB.2.2 hk)
theorem hq_cv (Y : hp_Y G h h0 s H locs) {a : Array Value} {st0 : List Value} (hr : va_Run p l e R s m args below meth c H locs cells slots 0 0 (F0 m pc ls st0) rest (va_Qv (fun u => u = h') (hp_B G h) (hp_A h) a) (hp_A h))
    (kk : ∀ (H1 : Heap) (locs1 : List Loc), hp_Y G h' h0 s H1 locs1 → hp_le h' h → (∀ q : Nat, q < H.size → ¬ hp_A h q → H1[q]? = H[q]?) → W p l e R s m args below meth c H1 locs1 cells slots Q (F0 m (pc + 3) ls rest)) : W p l e R s m args below meth c H locs cells slots Q (F0 m pc ls st0) :=
  va_callv hr Y.2.2 (fun q _ z => Y.2.1 q z) Y.2.1 (fun u t H1 locs1 ht hvm hp hB hz hk hS => by
    subst hp
    exact kk H1 locs1 (hp_back Y ht hB hS) hB.2.2 hk)
/-- a method's end, by a property -/
theorem hq_ri {cc : ByteArray} {nL : Nat} {own : String} {Ts : List Cond} {ret : Option FieldType} (X : hp_X p s m args meth c cc nL own Ts ret G) (Y : hp_Y G h h0 s H locs) {ty : FieldType} (hr : ret = some ty) {v : Int32} (hn : narrow ty (.int v) = .int v) {post : Int32 → hp_H → Prop} (hp : post v h) (hdg : decode cc pc = .ok (.ireturn, 1)) :
    W p l e R s m args below meth c H locs cells slots (MQ below (va_Qi post (hp_B G h0) (hp_A h0)) args s cells slots (hp_A h0)) (F0 m pc ls [.int v]) := by
  intro T hT X9
  obtain ⟨t, a1, o, b1, b2, ⟨⟨r, u, e1, e2, e3⟩, b4⟩, b5⟩ := hp_ri X Y hr hn hdg T hT X9
  exact ⟨t, a1, o, b1, b2, ⟨⟨v, h, by rw [← e2.1]; exact e1, hp, by rw [← e2.2]; exact e3⟩, b4⟩, b5⟩
end HQ
set_option maxHeartbeats 4000000 in
set_option maxRecDepth 100000 in
theorem s2L_divide (l : Launch) (G : hp_G) {hC hC' : hp_H} {z w : Nat} {f : Nat → Int64} (hw : hC w = none) {x1 x2 x3 x4 x5 r : Int32} (hF : fX5_divide z x1 x2 x3 x4 x5 hC = some (r, hC')) : Met l yL_divide wsL_divide rsL_divide (va_Pc [.ref z, .int x1, .int x2, .int x3, .int x4, .int x5, .ref w] (fun U => hp_S G (hcw hC w f) U ∧ hp_TW (hp_A (hcw hC w f)) U)) (va_Qi (fun r' u => r' = 0 ∧ u = hcw hC' w (vp_updL f 0 r.toInt64) ∧ hp_le hC' hC) (hp_B G (hcw hC w f)) (hp_A (hcw hC w f))) 0 0 (hp_A (hcw hC w f)) := by
  refine hw_met (cc := cL_divide) (nL := 8) (ret := (some .int)) (by decide) rfl ?_
  intro p e s m below meth c X Y TW htab
  have hl := lv_entry ([.ref z, .int x1, .int x2, .int x3, .int x4, .int x5, .ref w]) (n := 8) (Nat.le_of_ble_eq_true rfl)
  rw [lg_entry_eq]
  generalize (lg_sl ([.ref z, .int x1, .int x2, .int x3, .int x4, .int x5, .ref w]) ++ List.replicate (8 - (lg_sl ([.ref z, .int x1, .int x2, .int x3, .int x4, .int x5, .ref w])).length) Slot.unset).toArray = ls at hl ⊢
  have hl : lv_has ls 8 [(0, .ref z), (1, .int x1), (2, .int x2), (3, .int x3), (4, .int x4), (5, .int x5), (6, .ref w)] := hl
  refine lv_aload X.1 X.2.1 dL_divide_0 (lv_at hl 6 rfl) ?_
  refine lv_iconst (v := 0) X.1 X.2.1 dL_divide_2 (by decide) ?_
  refine lv_aload_n X.1 X.2.1 dL_divide_3 rfl (lv_at hl 0 rfl) ?_
  refine lv_iload_n X.1 X.2.1 dL_divide_4 rfl (lv_at hl 1 rfl) ?_
  refine lv_iload_n X.1 X.2.1 dL_divide_5 rfl (lv_at hl 2 rfl) ?_
  refine lv_iload_n X.1 X.2.1 dL_divide_6 rfl (lv_at hl 3 rfl) ?_
  refine lv_iload X.1 X.2.1 dL_divide_7 (lv_at hl 4 rfl) ?_
  refine lv_iload X.1 X.2.1 dL_divide_9 (lv_at hl 5 rfl) ?_
  refine hq_ci (hcw_Y hw Y) (hp_runV X (hcw_Y hw Y) (ci := 5) (As := [.int x1, .int x2, .int x3, .int x4, .int x5]) (n := 5) (T := TX5) (N := 6) (mX5_divide l G hF) rfl (oX5_divide hF) gL_divide_X5_divide rfl rfl rfl ndX5_divide ⟨Nat.le_of_ble_eq_true rfl, Nat.le_of_ble_eq_true rfl⟩ rfl hl.1 rfl (Nat.le_of_ble_eq_true rfl) dL_divide_11 ⟨Nat.zero_le _, Nat.zero_le _⟩) (fun H1 locs1 Y1 hle hk => ?_)
  have Y := hcw_back hw Y Y1 hk
  refine lv_i2l (v := Int32.toInt64 r) X.1 X.2.1 dL_divide_14 rfl ?_
  refine hp_last X Y (sj_at (hcw_w hC' w f) _) dL_divide_15 (fun H locs Y => ?_)
  refine lv_goto (tgt := 23) X.1 X.2.1 dL_divide_16 (by decide) ?_
  refine lv_iconst (v := 0) X.1 X.2.1 dL_divide_23 (by decide) ?_
  refine hq_ri X Y rfl rfl ⟨rfl, ?_, hle⟩ dL_divide_24
  unfold hcw
  funext q
  by_cases hq : q = w
  · rw [hq, va_up_self, va_up_self]
  · rw [va_up_ne _ _ hq, va_up_ne _ _ hq, va_up_ne _ _ hq]
set_option maxHeartbeats 4000000 in
set_option maxRecDepth 100000 in
theorem t2L_divide (l : Launch) (hst : l.stackTraces = false) (G : hp_G) {hC : hp_H} {z n w : Nat} {f : Nat → Int64} (hw : hC w = none) {R : Nat → Int} {T : Nat → Nat} (C : cs hC z R T n) {x1 x2 x3 x4 x5 : Int32} (hD : sDivide R x1 x2 x3 x4 x5 = none) : Met l yL_divide wsL_divide rtL_divide (va_Pc [.ref z, .int x1, .int x2, .int x3, .int x4, .int x5, .ref w] (fun U => hp_S G (hcw hC w f) U ∧ hp_TW (hp_A (hcw hC w f)) U)) (va_Qi (fun r' u => r' = 1 ∧ u = (hcw hC w f)) (hp_B G (hcw hC w f)) (hp_A (hcw hC w f))) 1 6 (hp_A (hcw hC w f)) := by
  refine hw_met (cc := cL_divide) (nL := 8) (ret := (some .int)) (by decide) rfl ?_
  intro p e s m below meth c X Y TW htab
  have hl := lv_entry ([.ref z, .int x1, .int x2, .int x3, .int x4, .int x5, .ref w]) (n := 8) (Nat.le_of_ble_eq_true rfl)
  rw [lg_entry_eq]
  generalize (lg_sl ([.ref z, .int x1, .int x2, .int x3, .int x4, .int x5, .ref w]) ++ List.replicate (8 - (lg_sl ([.ref z, .int x1, .int x2, .int x3, .int x4, .int x5, .ref w])).length) Slot.unset).toArray = ls at hl ⊢
  have hl : lv_has ls 8 [(0, .ref z), (1, .int x1), (2, .int x2), (3, .int x3), (4, .int x4), (5, .int x5), (6, .ref w)] := hl
  refine lv_aload X.1 X.2.1 dL_divide_0 (lv_at hl 6 rfl) ?_
  refine lv_iconst (v := 0) X.1 X.2.1 dL_divide_2 (by decide) ?_
  refine lv_aload_n X.1 X.2.1 dL_divide_3 rfl (lv_at hl 0 rfl) ?_
  refine lv_iload_n X.1 X.2.1 dL_divide_4 rfl (lv_at hl 1 rfl) ?_
  refine lv_iload_n X.1 X.2.1 dL_divide_5 rfl (lv_at hl 2 rfl) ?_
  refine lv_iload_n X.1 X.2.1 dL_divide_6 rfl (lv_at hl 3 rfl) ?_
  refine lv_iload X.1 X.2.1 dL_divide_7 (lv_at hl 4 rfl) ?_
  refine lv_iload X.1 X.2.1 dL_divide_9 (lv_at hl 5 rfl) ?_
  refine vx_calli (vx_runV ⟨X.1, X.2.1, X.2.2.1, X.2.2.2.1, X.2.2.2.2.1⟩ (tX5_divide l hst G C hD) (cwV 5 X.2.2.2.2.1 gL_divide_X5_divide rfl rfl rfl ⟨rfl, ndX5_divide⟩ ⟨Nat.le_of_ble_eq_true rfl, Nat.le_of_ble_eq_true rfl⟩) ⟨hp_blindT G hC _ _, hp_recv X (hcw_Y hw Y) (ci := 5) (q := (RX5, TX5, 6)) rfl (cs_o C), fun U hU hW => ⟨rfl, ⟨by rw [hU]; exact (hcw_Y hw Y).1, va_K.moved hW.alike X.2.2.2.2.2.1⟩, (TW.go Y.2.2 hU hW).narrow (hcw_le hw)⟩⟩ rfl rfl hl.1 rfl (lv_room (Nat.le_of_ble_eq_true rfl)) dL_divide_11 ⟨by decide, by decide⟩) Y.2.2 (fun q _ z => hcw_le hw q z) (fun q z => hcw_le hw q z) (fun q _ z => hcw_le hw q z) (fun E ce q9 u t H1 locs1 ht hvm hpx hBX hz hk hS hce hcv hcl => ?_) (fun r u t H1 locs1 ht hvm hp hB hz hk hS => hp.elim)
  obtain ⟨rfl, hB⟩ := hBX
  subst hpx
  have Y : hp_Y G (hcw u w f) (hcw u w f) s H1 locs1 := hcw_back hw Y (hp_back (hcw_Y hw Y) ht hB hS) hk
  refine vx_catch X.2.2.2.1 [] ⟨0, 16, 19, 13⟩ [] (by rw [htab]; rfl) (fun z hz => nomatch hz) (by decide) (by decide) (X.2.2.2.2.1 _ (by decide +kernel : Cond.classLink RL 13 nmAE ∈ wsL_divide)) (va_Nw.use rfl TW.2.2.2.2.2.2.2.1) hce hcv hcl ?_
  refine lv_astore (lv' := [(7, .ref q9), (0, .ref z), (1, .int x1), (2, .int x2), (3, .int x3), (4, .int x4), (5, .int x5), (6, .ref w)]) X.1 X.2.1 dL_divide_19 hl (by decide) rfl (fun ls hl => ?_)
  refine lv_iconst (v := 1) X.1 X.2.1 dL_divide_21 (by decide) ?_
  exact hp_ri X Y rfl rfl dL_divide_22
set_option maxHeartbeats 4000000 in
set_option maxRecDepth 100000 in
theorem s2L_root (l : Launch) (G : hp_G) {hC hC' : hp_H} {z w : Nat} {f : Nat → Int64} (hw : hC w = none) {x1 x2 r : Int32} (hF : fX5_root z x1 x2 hC = some (r, hC')) : Met l yL_root wsL_root rsL_root (va_Pc [.ref z, .int x1, .int x2, .ref w] (fun U => hp_S G (hcw hC w f) U ∧ hp_TW (hp_A (hcw hC w f)) U)) (va_Qi (fun r' u => r' = 0 ∧ u = hcw hC' w (vp_updL f 0 r.toInt64) ∧ hp_le hC' hC) (hp_B G (hcw hC w f)) (hp_A (hcw hC w f))) 0 0 (hp_A (hcw hC w f)) := by
  refine hw_met (cc := cL_root) (nL := 5) (ret := (some .int)) (by decide) rfl ?_
  intro p e s m below meth c X Y TW htab
  have hl := lv_entry ([.ref z, .int x1, .int x2, .ref w]) (n := 5) (Nat.le_of_ble_eq_true rfl)
  rw [lg_entry_eq]
  generalize (lg_sl ([.ref z, .int x1, .int x2, .ref w]) ++ List.replicate (5 - (lg_sl ([.ref z, .int x1, .int x2, .ref w])).length) Slot.unset).toArray = ls at hl ⊢
  have hl : lv_has ls 5 [(0, .ref z), (1, .int x1), (2, .int x2), (3, .ref w)] := hl
  refine lv_aload_n X.1 X.2.1 dL_root_0 rfl (lv_at hl 3 rfl) ?_
  refine lv_iconst (v := 0) X.1 X.2.1 dL_root_1 (by decide) ?_
  refine lv_aload_n X.1 X.2.1 dL_root_2 rfl (lv_at hl 0 rfl) ?_
  refine lv_iload_n X.1 X.2.1 dL_root_3 rfl (lv_at hl 1 rfl) ?_
  refine lv_iload_n X.1 X.2.1 dL_root_4 rfl (lv_at hl 2 rfl) ?_
  refine hq_ci (hcw_Y hw Y) (hp_runV X (hcw_Y hw Y) (ci := 5) (As := [.int x1, .int x2]) (n := 2) (T := TX5) (N := 6) (mX5_root l G hF) rfl (oX5_root hF) gL_root_X5_root rfl rfl rfl ndX5_root ⟨Nat.le_of_ble_eq_true rfl, Nat.le_of_ble_eq_true rfl⟩ rfl hl.1 rfl (Nat.le_of_ble_eq_true rfl) dL_root_5 ⟨Nat.zero_le _, Nat.zero_le _⟩) (fun H1 locs1 Y1 hle hk => ?_)
  have Y := hcw_back hw Y Y1 hk
  refine lv_i2l (v := Int32.toInt64 r) X.1 X.2.1 dL_root_8 rfl ?_
  refine hp_last X Y (sj_at (hcw_w hC' w f) _) dL_root_9 (fun H locs Y => ?_)
  refine lv_goto (tgt := 17) X.1 X.2.1 dL_root_10 (by decide) ?_
  refine lv_iconst (v := 0) X.1 X.2.1 dL_root_17 (by decide) ?_
  refine hq_ri X Y rfl rfl ⟨rfl, ?_, hle⟩ dL_root_18
  unfold hcw
  funext q
  by_cases hq : q = w
  · rw [hq, va_up_self, va_up_self]
  · rw [va_up_ne _ _ hq, va_up_ne _ _ hq, va_up_ne _ _ hq]
set_option maxHeartbeats 4000000 in
set_option maxRecDepth 100000 in
theorem t2L_root (l : Launch) (hst : l.stackTraces = false) (G : hp_G) {hC : hp_H} {z n w : Nat} {f : Nat → Int64} (hw : hC w = none) {R : Nat → Int} {T : Nat → Nat} (C : cs hC z R T n) {x1 x2 : Int32} (hD : sRoot R x1 x2 = none) : Met l yL_root wsL_root rtL_root (va_Pc [.ref z, .int x1, .int x2, .ref w] (fun U => hp_S G (hcw hC w f) U ∧ hp_TW (hp_A (hcw hC w f)) U)) (va_Qi (fun r' u => r' = 1 ∧ u = (hcw hC w f)) (hp_B G (hcw hC w f)) (hp_A (hcw hC w f))) 1 6 (hp_A (hcw hC w f)) := by
  refine hw_met (cc := cL_root) (nL := 5) (ret := (some .int)) (by decide) rfl ?_
  intro p e s m below meth c X Y TW htab
  have hl := lv_entry ([.ref z, .int x1, .int x2, .ref w]) (n := 5) (Nat.le_of_ble_eq_true rfl)
  rw [lg_entry_eq]
  generalize (lg_sl ([.ref z, .int x1, .int x2, .ref w]) ++ List.replicate (5 - (lg_sl ([.ref z, .int x1, .int x2, .ref w])).length) Slot.unset).toArray = ls at hl ⊢
  have hl : lv_has ls 5 [(0, .ref z), (1, .int x1), (2, .int x2), (3, .ref w)] := hl
  refine lv_aload_n X.1 X.2.1 dL_root_0 rfl (lv_at hl 3 rfl) ?_
  refine lv_iconst (v := 0) X.1 X.2.1 dL_root_1 (by decide) ?_
  refine lv_aload_n X.1 X.2.1 dL_root_2 rfl (lv_at hl 0 rfl) ?_
  refine lv_iload_n X.1 X.2.1 dL_root_3 rfl (lv_at hl 1 rfl) ?_
  refine lv_iload_n X.1 X.2.1 dL_root_4 rfl (lv_at hl 2 rfl) ?_
  refine vx_calli (vx_runV ⟨X.1, X.2.1, X.2.2.1, X.2.2.2.1, X.2.2.2.2.1⟩ (tX5_root l hst G C hD) (cwV 2 X.2.2.2.2.1 gL_root_X5_root rfl rfl rfl ⟨rfl, ndX5_root⟩ ⟨Nat.le_of_ble_eq_true rfl, Nat.le_of_ble_eq_true rfl⟩) ⟨hp_blindT G hC _ _, hp_recv X (hcw_Y hw Y) (ci := 5) (q := (RX5, TX5, 6)) rfl (cs_o C), fun U hU hW => ⟨rfl, ⟨by rw [hU]; exact (hcw_Y hw Y).1, va_K.moved hW.alike X.2.2.2.2.2.1⟩, (TW.go Y.2.2 hU hW).narrow (hcw_le hw)⟩⟩ rfl rfl hl.1 rfl (lv_room (Nat.le_of_ble_eq_true rfl)) dL_root_5 ⟨by decide, by decide⟩) Y.2.2 (fun q _ z => hcw_le hw q z) (fun q z => hcw_le hw q z) (fun q _ z => hcw_le hw q z) (fun E ce q9 u t H1 locs1 ht hvm hpx hBX hz hk hS hce hcv hcl => ?_) (fun r u t H1 locs1 ht hvm hp hB hz hk hS => hp.elim)
  obtain ⟨rfl, hB⟩ := hBX
  subst hpx
  have Y : hp_Y G (hcw u w f) (hcw u w f) s H1 locs1 := hcw_back hw Y (hp_back (hcw_Y hw Y) ht hB hS) hk
  refine vx_catch X.2.2.2.1 [] ⟨0, 10, 13, 19⟩ [] (by rw [htab]; rfl) (fun z hz => nomatch hz) (by decide) (by decide) (X.2.2.2.2.1 _ (by decide +kernel : Cond.classLink RL 19 nmIE ∈ wsL_root)) (va_Nw.use rfl TW.2.2.2.2.2.2.2.2) hce hcv hcl ?_
  refine lv_astore (lv' := [(4, .ref q9), (0, .ref z), (1, .int x1), (2, .int x2), (3, .ref w)]) X.1 X.2.1 dL_root_13 hl (by decide) rfl (fun ls hl => ?_)
  refine lv_iconst (v := 1) X.1 X.2.1 dL_root_15 (by decide) ?_
  exact hp_ri X Y rfl rfl dL_root_16
