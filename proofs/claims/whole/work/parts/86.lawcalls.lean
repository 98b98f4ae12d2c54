/-! THE LAW'S divide AND root (laid by wip/lawcalls.py) -/
theorem hp_blindT (G : hp_G) (h : hp_H) (A : Nat → Prop) (av : List Value) : FrameBlind (va_Pc av (fun U => hp_S G h U ∧ hp_TW A U)) := fun a U g mk q => ⟨q.1, ⟨q.2.1.1, va_K.moved (u := U) (U := U.calling g mk a) (Vm.Alike.refl U.vm) q.2.1.2⟩, q.2.2.calling⟩
/-- a contract of a method with a table of its own -/
theorem hw_met {l : Launch} {cc : ByteArray} {nL : Nat} {ret : Option FieldType} {hh : List (Nat × Nat × Nat × Nat)} {G : hp_G} {h : hp_H} {y : MethodName} {ws ws' : List Cond} {rm : Room} {av : List Value} {Qc : Array Value → State → Outcome → State → Prop} {mc ms : Nat} {N : State → Prop} (hy : plainName y.cls = true) (hw : ws = Cond.codeWith y cc nL ret hh :: ws')
    (body : ∀ {p : Program} {e : Env} {s : State} {m : MethodId} {below : List Frame} {meth : Method} {c : Code}, hp_X p s m av.toArray meth c cc nL y.cls ws ret G → hp_Y G h h s s.heap [] → N s → c.exceptionTable.toList = tableOf hh → W p l e rm s m av.toArray below meth c s.heap [] 0 0 (MQ below Qc av.toArray s mc ms (hp_A h)) (entryFrame m av.toArray nL)) :
    Met l y ws rm (va_Pc av (fun U => hp_S G h U ∧ N U)) Qc mc ms (hp_A h) := by
  refine MetFree.of_bodyS (code := cc) (maxLocals := nL) (ret := ret) hy ?_ ?_
  · intro args s m h hn
    obtain ⟨m9, meth, c, hn9, h1, h2, h3, h4, -, h5, h6, -⟩ := Cond.codeWith_spec (atoms_spec (ws := ws) h _ (by rw [hw]; exact List.mem_cons_self))
    cases hn.symm.trans hn9
    exact ⟨meth, c, h1, h2, h3, h4, h5, h6⟩
  · intro p e s m args below meth c s₁ B hml hv _
    have hh0 : s₁.heap = s.heap := by rw [B.state]; rfl
    have htab := vx_table (x := y) B (atoms_spec (ws := ws) B.pre (Cond.codeWith y cc nL ret hh) (by rw [hw]; exact List.mem_cons_self))
    obtain ⟨rfl, ⟨hP, hK⟩, hN⟩ := hv
    obtain ⟨t, a1, o, b1, b2, b3⟩ := body (p := p) (e := e) (s := s) (m := m) (below := below) (meth := meth) (c := c) ⟨B.exec, B.bytes, hml, findClass_of_methodNamed B.named, atoms_spec (ws := ws) B.pre, hK, B.returns, B.notSynchronized⟩ ⟨hP, hp_le.rf, va_S.rf⟩ hN htab s₁ hh0 (Stand.of_body B)
    exact ⟨t, o, a1, b1, b2, b3⟩
theorem sj_at {h : hp_H} {w : Nat} {f : Nat → Int64} (hw : h w = some (.inr (.inl (1, f)))) (v : Int64) : hp_sj h w 0 v = some (va_up h w (some (.inr (.inl (1, vp_updL f 0 v))))) := by
  unfold hp_sj
  rw [hw]
  exact if_pos (by decide)
def rsL_divide : Room := { frames := 6, cells := 0, slots := 0, locals := 153 }
def rtL_divide : Room := { frames := 7, cells := 1, slots := 6, locals := 153 }
theorem ndL_divide : yL_divide.cls ≠ "java/lang/invoke/MethodHandle" ∧ yL_divide.cls ≠ "java/lang/invoke/VarHandle" ∧ (parseMethodDescriptor yL_divide.desc).map (fun d => d.parameters.length) = some 7 := by decide +kernel
set_option maxHeartbeats 4000000 in
set_option maxRecDepth 100000 in
theorem sL_divide (l : Launch) (G : hp_G) {h h1 : hp_H} {z w : Nat} {f : Nat → Int64} {x1 x2 x3 x4 x5 r : Int32} (hF : fX5_divide z x1 x2 x3 x4 x5 h = some (r, h1)) (hw : h1 w = some (.inr (.inl (1, f)))) : Met l yL_divide wsL_divide rsL_divide (va_Pc [.ref z, .int x1, .int x2, .int x3, .int x4, .int x5, .ref w] (fun U => hp_S G h U ∧ hp_TW (hp_A h) U)) (va_Qi (fun r' u => r' = 0 ∧ u = va_up h1 w (some (.inr (.inl (1, vp_updL f 0 r.toInt64))))) (hp_B G h) (hp_A h)) 0 0 (hp_A h) := by
  refine hw_met (cc := cL_divide) (nL := 8) (ret := (some .int)) (by decide) rfl ?_
  intro p e s m below meth c X Y TW htab
  have hl := lv_entry ([.ref z, .int x1, .int x2, .int x3, .int x4, .int x5, .ref w]) (n := 8) (Nat.le_of_ble_eq_true rfl)
  rw [lg_entry_eq]
  generalize (lg_sl ([.ref z, .int x1, .int x2, .int x3, .int x4, .int x5, .ref w]) ++ List.replicate (8 - (lg_sl ([.ref z, .int x1, .int x2, .int x3, .int x4, .int x5, .ref w])).length) Slot.unset).toArray = ls at hl ⊢
  have hl : lv_has ls 8 [(0, .ref z), (1, .int x1), (2, .int x2), (3, .int x3), (4, .int x4), (5, .int x5), (6, .ref w)] := hl
  refine lv_aload X.1 X.2.1 dL_divide_0 (lv_at hl 6 rfl) ?_
  refine lv_iconst (v := 0) X.1 X.2.1 dL_divide_2 (by decide) ?_
  refine lv_aload_n X.1 X.2.1 dL_divide_3 rfl (lv_at hl 0 rfl) ?_
  refine lv_iload_n X.1 X.2.1 dL_divide_4 rfl (lv_at hl 1 rfl) ?_
  refine lv_iload_n X.1 X.2.1 dL_divide_5 rfl (lv_at hl 2 rfl) ?_
  refine lv_iload_n X.1 X.2.1 dL_divide_6 rfl (lv_at hl 3 rfl) ?_
  refine lv_iload X.1 X.2.1 dL_divide_7 (lv_at hl 4 rfl) ?_
  refine lv_iload X.1 X.2.1 dL_divide_9 (lv_at hl 5 rfl) ?_
  refine hp_ci Y (hp_runV X Y (ci := 5) (As := [.int x1, .int x2, .int x3, .int x4, .int x5]) (n := 5) (T := TX5) (N := 6) (mX5_divide l G hF) rfl (oX5_divide hF) gL_divide_X5_divide rfl rfl rfl ndX5_divide ⟨Nat.le_of_ble_eq_true rfl, Nat.le_of_ble_eq_true rfl⟩ rfl hl.1 rfl (Nat.le_of_ble_eq_true rfl) dL_divide_11 ⟨Nat.zero_le _, Nat.zero_le _⟩) (fun H locs Y => ?_)
  refine lv_i2l (v := Int32.toInt64 r) X.1 X.2.1 dL_divide_14 rfl ?_
  refine hp_last X Y (sj_at hw _) dL_divide_15 (fun H locs Y => ?_)
  refine lv_goto (tgt := 23) X.1 X.2.1 dL_divide_16 (by decide) ?_
  refine lv_iconst (v := 0) X.1 X.2.1 dL_divide_23 (by decide) ?_
  exact hp_ri X Y rfl rfl dL_divide_24
set_option maxHeartbeats 4000000 in
set_option maxRecDepth 100000 in
theorem tL_divide (l : Launch) (hst : l.stackTraces = false) (G : hp_G) {h : hp_H} {z n w : Nat} {R : Nat → Int} {T : Nat → Nat} (C : cs h z R T n) {x1 x2 x3 x4 x5 : Int32} (hD : sDivide R x1 x2 x3 x4 x5 = none) : Met l yL_divide wsL_divide rtL_divide (va_Pc [.ref z, .int x1, .int x2, .int x3, .int x4, .int x5, .ref w] (fun U => hp_S G h U ∧ hp_TW (hp_A h) U)) (va_Qi (fun r' u => r' = 1 ∧ u = h) (hp_B G h) (hp_A h)) 1 6 (hp_A h) := by
  refine hw_met (cc := cL_divide) (nL := 8) (ret := (some .int)) (by decide) rfl ?_
  intro p e s m below meth c X Y TW htab
  have hl := lv_entry ([.ref z, .int x1, .int x2, .int x3, .int x4, .int x5, .ref w]) (n := 8) (Nat.le_of_ble_eq_true rfl)
  rw [lg_entry_eq]
  generalize (lg_sl ([.ref z, .int x1, .int x2, .int x3, .int x4, .int x5, .ref w]) ++ List.replicate (8 - (lg_sl ([.ref z, .int x1, .int x2, .int x3, .int x4, .int x5, .ref w])).length) Slot.unset).toArray = ls at hl ⊢
  have hl : lv_has ls 8 [(0, .ref z), (1, .int x1), (2, .int x2), (3, .int x3), (4, .int x4), (5, .int x5), (6, .ref w)] := hl
  refine lv_aload X.1 X.2.1 dL_divide_0 (lv_at hl 6 rfl) ?_
  refine lv_iconst (v := 0) X.1 X.2.1 dL_divide_2 (by decide) ?_
  refine lv_aload_n X.1 X.2.1 dL_divide_3 rfl (lv_at hl 0 rfl) ?_
  refine lv_iload_n X.1 X.2.1 dL_divide_4 rfl (lv_at hl 1 rfl) ?_
  refine lv_iload_n X.1 X.2.1 dL_divide_5 rfl (lv_at hl 2 rfl) ?_
  refine lv_iload_n X.1 X.2.1 dL_divide_6 rfl (lv_at hl 3 rfl) ?_
  refine lv_iload X.1 X.2.1 dL_divide_7 (lv_at hl 4 rfl) ?_
  refine lv_iload X.1 X.2.1 dL_divide_9 (lv_at hl 5 rfl) ?_
  refine vx_calli (vx_runV ⟨X.1, X.2.1, X.2.2.1, X.2.2.2.1, X.2.2.2.2.1⟩ (tX5_divide l hst G C hD) (cwV 5 X.2.2.2.2.1 gL_divide_X5_divide rfl rfl rfl ⟨rfl, ndX5_divide⟩ ⟨Nat.le_of_ble_eq_true rfl, Nat.le_of_ble_eq_true rfl⟩) ⟨hp_blindT G h _ _, hp_recv X Y (ci := 5) (q := (RX5, TX5, 6)) rfl (cs_o C), fun U hU hW => ⟨rfl, ⟨by rw [hU]; exact Y.1, va_K.moved hW.alike X.2.2.2.2.2.1⟩, TW.go Y.2.2 hU hW⟩⟩ rfl rfl hl.1 rfl (lv_room (Nat.le_of_ble_eq_true rfl)) dL_divide_11 ⟨by decide, by decide⟩) Y.2.2 (fun q _ z => z) (fun q z => z) (fun q _ z => z) (fun E ce q9 u t H1 locs1 ht hvm hpx hBX hz hk hS hce hcv hcl => ?_) (fun r u t H1 locs1 ht hvm hp hB hz hk hS => hp.elim)
  obtain ⟨rfl, hB⟩ := hBX
  subst hpx
  have Y : hp_Y G u u s H1 locs1 := hp_back Y ht hB hS
  refine vx_catch X.2.2.2.1 [] ⟨0, 16, 19, 13⟩ [] (by rw [htab]; rfl) (fun z hz => nomatch hz) (by decide) (by decide) (X.2.2.2.2.1 _ (by decide +kernel : Cond.classLink RL 13 nmAE ∈ wsL_divide)) (va_Nw.use rfl TW.2.2.2.2.2.2.2.1) hce hcv hcl ?_
  refine lv_astore (lv' := [(7, .ref q9), (0, .ref z), (1, .int x1), (2, .int x2), (3, .int x3), (4, .int x4), (5, .int x5), (6, .ref w)]) X.1 X.2.1 dL_divide_19 hl (by decide) rfl (fun ls hl => ?_)
  refine lv_iconst (v := 1) X.1 X.2.1 dL_divide_21 (by decide) ?_
  exact hp_ri X Y rfl rfl dL_divide_22
def rsL_root : Room := { frames := 6, cells := 0, slots := 0, locals := 150 }
def rtL_root : Room := { frames := 7, cells := 1, slots := 6, locals := 150 }
theorem ndL_root : yL_root.cls ≠ "java/lang/invoke/MethodHandle" ∧ yL_root.cls ≠ "java/lang/invoke/VarHandle" ∧ (parseMethodDescriptor yL_root.desc).map (fun d => d.parameters.length) = some 4 := by decide +kernel
set_option maxHeartbeats 4000000 in
set_option maxRecDepth 100000 in
theorem sL_root (l : Launch) (G : hp_G) {h h1 : hp_H} {z w : Nat} {f : Nat → Int64} {x1 x2 r : Int32} (hF : fX5_root z x1 x2 h = some (r, h1)) (hw : h1 w = some (.inr (.inl (1, f)))) : Met l yL_root wsL_root rsL_root (va_Pc [.ref z, .int x1, .int x2, .ref w] (fun U => hp_S G h U ∧ hp_TW (hp_A h) U)) (va_Qi (fun r' u => r' = 0 ∧ u = va_up h1 w (some (.inr (.inl (1, vp_updL f 0 r.toInt64))))) (hp_B G h) (hp_A h)) 0 0 (hp_A h) := by
  refine hw_met (cc := cL_root) (nL := 5) (ret := (some .int)) (by decide) rfl ?_
  intro p e s m below meth c X Y TW htab
  have hl := lv_entry ([.ref z, .int x1, .int x2, .ref w]) (n := 5) (Nat.le_of_ble_eq_true rfl)
  rw [lg_entry_eq]
  generalize (lg_sl ([.ref z, .int x1, .int x2, .ref w]) ++ List.replicate (5 - (lg_sl ([.ref z, .int x1, .int x2, .ref w])).length) Slot.unset).toArray = ls at hl ⊢
  have hl : lv_has ls 5 [(0, .ref z), (1, .int x1), (2, .int x2), (3, .ref w)] := hl
  refine lv_aload_n X.1 X.2.1 dL_root_0 rfl (lv_at hl 3 rfl) ?_
  refine lv_iconst (v := 0) X.1 X.2.1 dL_root_1 (by decide) ?_
  refine lv_aload_n X.1 X.2.1 dL_root_2 rfl (lv_at hl 0 rfl) ?_
  refine lv_iload_n X.1 X.2.1 dL_root_3 rfl (lv_at hl 1 rfl) ?_
  refine lv_iload_n X.1 X.2.1 dL_root_4 rfl (lv_at hl 2 rfl) ?_
  refine hp_ci Y (hp_runV X Y (ci := 5) (As := [.int x1, .int x2]) (n := 2) (T := TX5) (N := 6) (mX5_root l G hF) rfl (oX5_root hF) gL_root_X5_root rfl rfl rfl ndX5_root ⟨Nat.le_of_ble_eq_true rfl, Nat.le_of_ble_eq_true rfl⟩ rfl hl.1 rfl (Nat.le_of_ble_eq_true rfl) dL_root_5 ⟨Nat.zero_le _, Nat.zero_le _⟩) (fun H locs Y => ?_)
  refine lv_i2l (v := Int32.toInt64 r) X.1 X.2.1 dL_root_8 rfl ?_
  refine hp_last X Y (sj_at hw _) dL_root_9 (fun H locs Y => ?_)
  refine lv_goto (tgt := 17) X.1 X.2.1 dL_root_10 (by decide) ?_
  refine lv_iconst (v := 0) X.1 X.2.1 dL_root_17 (by decide) ?_
  exact hp_ri X Y rfl rfl dL_root_18
set_option maxHeartbeats 4000000 in
set_option maxRecDepth 100000 in
theorem tL_root (l : Launch) (hst : l.stackTraces = false) (G : hp_G) {h : hp_H} {z n w : Nat} {R : Nat → Int} {T : Nat → Nat} (C : cs h z R T n) {x1 x2 : Int32} (hD : sRoot R x1 x2 = none) : Met l yL_root wsL_root rtL_root (va_Pc [.ref z, .int x1, .int x2, .ref w] (fun U => hp_S G h U ∧ hp_TW (hp_A h) U)) (va_Qi (fun r' u => r' = 1 ∧ u = h) (hp_B G h) (hp_A h)) 1 6 (hp_A h) := by
  refine hw_met (cc := cL_root) (nL := 5) (ret := (some .int)) (by decide) rfl ?_
  intro p e s m below meth c X Y TW htab
  have hl := lv_entry ([.ref z, .int x1, .int x2, .ref w]) (n := 5) (Nat.le_of_ble_eq_true rfl)
  rw [lg_entry_eq]
  generalize (lg_sl ([.ref z, .int x1, .int x2, .ref w]) ++ List.replicate (5 - (lg_sl ([.ref z, .int x1, .int x2, .ref w])).length) Slot.unset).toArray = ls at hl ⊢
  have hl : lv_has ls 5 [(0, .ref z), (1, .int x1), (2, .int x2), (3, .ref w)] := hl
  refine lv_aload_n X.1 X.2.1 dL_root_0 rfl (lv_at hl 3 rfl) ?_
  refine lv_iconst (v := 0) X.1 X.2.1 dL_root_1 (by decide) ?_
  refine lv_aload_n X.1 X.2.1 dL_root_2 rfl (lv_at hl 0 rfl) ?_
  refine lv_iload_n X.1 X.2.1 dL_root_3 rfl (lv_at hl 1 rfl) ?_
  refine lv_iload_n X.1 X.2.1 dL_root_4 rfl (lv_at hl 2 rfl) ?_
  refine vx_calli (vx_runV ⟨X.1, X.2.1, X.2.2.1, X.2.2.2.1, X.2.2.2.2.1⟩ (tX5_root l hst G C hD) (cwV 2 X.2.2.2.2.1 gL_root_X5_root rfl rfl rfl ⟨rfl, ndX5_root⟩ ⟨Nat.le_of_ble_eq_true rfl, Nat.le_of_ble_eq_true rfl⟩) ⟨hp_blindT G h _ _, hp_recv X Y (ci := 5) (q := (RX5, TX5, 6)) rfl (cs_o C), fun U hU hW => ⟨rfl, ⟨by rw [hU]; exact Y.1, va_K.moved hW.alike X.2.2.2.2.2.1⟩, TW.go Y.2.2 hU hW⟩⟩ rfl rfl hl.1 rfl (lv_room (Nat.le_of_ble_eq_true rfl)) dL_root_5 ⟨by decide, by decide⟩) Y.2.2 (fun q _ z => z) (fun q z => z) (fun q _ z => z) (fun E ce q9 u t H1 locs1 ht hvm hpx hBX hz hk hS hce hcv hcl => ?_) (fun r u t H1 locs1 ht hvm hp hB hz hk hS => hp.elim)
  obtain ⟨rfl, hB⟩ := hBX
  subst hpx
  have Y : hp_Y G u u s H1 locs1 := hp_back Y ht hB hS
  refine vx_catch X.2.2.2.1 [] ⟨0, 10, 13, 19⟩ [] (by rw [htab]; rfl) (fun z hz => nomatch hz) (by decide) (by decide) (X.2.2.2.2.1 _ (by decide +kernel : Cond.classLink RL 19 nmIE ∈ wsL_root)) (va_Nw.use rfl TW.2.2.2.2.2.2.2.2) hce hcv hcl ?_
  refine lv_astore (lv' := [(4, .ref q9), (0, .ref z), (1, .int x1), (2, .int x2), (3, .ref w)]) X.1 X.2.1 dL_root_13 hl (by decide) rfl (fun ls hl => ?_)
  refine lv_iconst (v := 1) X.1 X.2.1 dL_root_15 (by decide) ?_
  exact hp_ri X Y rfl rfl dL_root_16
