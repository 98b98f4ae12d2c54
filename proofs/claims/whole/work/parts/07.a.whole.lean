/-! WholeNumbers$Whole.take -/
def rmX4_take : Room := { frames := 2, cells := 0, slots := 0, locals := 69 }
def fX4_take (x0 : Nat) (x1 : Nat) (h : hp_H) : Option hp_H :=
  if hp_o h x0 4 = true then
  (hp_gr h x0 4 0).bind fun v1 =>
  (hp_gr h x1 4 0).bind fun v3 =>
  (fX2_take v1 v3 h).bind fun h6 =>
  (hp_gi h6 x1 4 1).bind fun v7 =>
  if hp_bo v7 then
  (hp_pv h6 x0 4 1 (.int v7)).bind fun h9 =>
  some h9
  else none
  else none
theorem inX4_take_X4 : ∀ w ∈ wsX40, w ∈ wsX4_take := by decide +kernel
theorem lkX4_take_f12 : Cond.fieldLink RX4 12 (TX4 0).1 (TX4 0).2.1 (TX4 0).2.2.1 ∈ wsX4_take := by decide +kernel
theorem lkX4_take_f22 : Cond.fieldLink RX4 22 (TX4 1).1 (TX4 1).2.1 (TX4 1).2.2.1 ∈ wsX4_take := by decide +kernel
theorem ndX4_take : yX4_take.cls ≠ "java/lang/invoke/MethodHandle" ∧ yX4_take.cls ≠ "java/lang/invoke/VarHandle" ∧ (parseMethodDescriptor yX4_take.desc).map (fun d => d.parameters.length) = some 1 := by decide +kernel
theorem oX4_take {x0 : Nat} {x1 : Nat} {h h' : hp_H}  (hF : fX4_take x0 x1 h = some h') : hp_o h x0 4 = true := by
  unfold fX4_take at hF
  exact (hp_ift hF).1
set_option maxRecDepth 100000 in
set_option maxHeartbeats 4000000 in
theorem mX4_take (l : Launch) (G : hp_G) {x0 : Nat} {x1 : Nat} {h h' : hp_H}  (hF : fX4_take x0 x1 h = some h') : Met l yX4_take wsX4_take rmX4_take (va_Pc [.ref x0, .ref x1] (hp_S G h)) (va_Qv (fun u => u = h') (hp_B G h) (hp_A h)) 0 0 (hp_A h) := by
  refine hp_met (cc := cX4_take) (nL := 2) (ret := none) (by decide) rfl ?_
  intro p e s m below meth c X Y
  have hl := lv_entry ([.ref x0, .ref x1]) (n := 2) (Nat.le_of_ble_eq_true rfl)
  rw [lg_entry_eq]
  generalize (lg_sl ([.ref x0, .ref x1]) ++ List.replicate (2 - (lg_sl ([.ref x0, .ref x1])).length) Slot.unset).toArray = ls at hl ⊢
  have hl : lv_has ls 2 [(0, .ref x0), (1, .ref x1)] := hl
  unfold fX4_take at hF
  obtain ⟨ho, hF⟩ := hp_ift hF
  refine lv_aload_n X.1 X.2.1 dX4_take_0 rfl (lv_at hl 0 rfl) ?_
  obtain ⟨v1, e2, hF⟩ := hp_b hF
  refine hp_getr X Y (C := RX4) (T := TX4) (N := 2) (ci := 4) (k := 0) rfl inX4_take_X4 (by decide) lkX4_take_f12 e2 dX4_take_1 ?_
  refine lv_aload_n X.1 X.2.1 dX4_take_4 rfl (lv_at hl 1 rfl) ?_
  obtain ⟨v3, e4, hF⟩ := hp_b hF
  refine hp_getr X Y (C := RX4) (T := TX4) (N := 2) (ci := 4) (k := 0) rfl inX4_take_X4 (by decide) lkX4_take_f12 e4 dX4_take_5 ?_
  obtain ⟨h6, e5, hF⟩ := hp_b hF
  refine hp_cv Y (hp_runV X Y (ci := 2) (As := [.ref v3]) (n := 1) (T := TX2) (N := 2) (mX2_take l G e5) rfl (oX2_take e5) gX4_take_X2_take rfl rfl rfl ndX2_take ⟨Nat.le_of_ble_eq_true rfl, Nat.le_of_ble_eq_true rfl⟩ rfl hl.1 rfl (Nat.le_of_ble_eq_true rfl) dX4_take_8 ⟨Nat.zero_le _, Nat.zero_le _⟩) (fun H locs Y => ?_)
  refine lv_aload_n X.1 X.2.1 dX4_take_11 rfl (lv_at hl 0 rfl) ?_
  refine lv_aload_n X.1 X.2.1 dX4_take_12 rfl (lv_at hl 1 rfl) ?_
  obtain ⟨v7, e8, hF⟩ := hp_b hF
  refine hp_geti X Y (C := RX4) (T := TX4) (N := 2) (ci := 4) (k := 1) rfl inX4_take_X4 (by decide) lkX4_take_f22 e8 dX4_take_13 ?_
  obtain ⟨e11, hF⟩ := hp_ift hF
  obtain ⟨h9, e10, hF⟩ := hp_b hF
  refine hp_put X Y (C := RX4) (T := TX4) (N := 2) (ci := 4) (k := 1) (ty0 := tyX4) rfl inX4_take_X4 tyX4_ok nmX4 (by decide) lkX4_take_f22 rfl (hp_bo_n e11) (hp_bo_f e11) e10 dX4_take_16 (fun H locs Y => ?_)
  cases hF
  exact hp_rv X Y rfl dX4_take_19

/-! WholeNumbers$Whole.takeLong -/
def rmX4_takeLong : Room := { frames := 3, cells := 0, slots := 0, locals := 65 }
def bX4_takeLong_31   (t0 : Nat) (t1 : Int32) (h : hp_H) : Option hp_H :=
  if hp_bo t1 then
  (hp_pv h t0 4 1 (.int t1)).bind fun h1 =>
  some h1
  else none
def bX4_takeLong_16  (x0 : Nat) (x1 : Int64) (t0 : Nat) (t1 : Int64) (h : hp_H) : Option hp_H :=
  (fX2_takeUnsigned t0 t1 h).bind fun h2 =>
  if (0 : Int64) ≤ x1 then (
    bX4_takeLong_31 x0 (0 : Int32) h2)
  else (
    bX4_takeLong_31 x0 (1 : Int32) h2)
def fX4_takeLong (x0 : Nat) (x1 : Int64) (h : hp_H) : Option hp_H :=
  if hp_o h x0 4 = true then
  (hp_gr h x0 4 0).bind fun v1 =>
  if (0 : Int64) ≤ x1 then (
    bX4_takeLong_16 x0 x1 v1 x1 h)
  else (
    bX4_takeLong_16 x0 x1 v1 (-x1) h)
  else none
theorem inX4_takeLong_X4 : ∀ w ∈ wsX40, w ∈ wsX4_takeLong := by decide +kernel
theorem lkX4_takeLong_f22 : Cond.fieldLink RX4 22 (TX4 1).1 (TX4 1).2.1 (TX4 1).2.2.1 ∈ wsX4_takeLong := by decide +kernel
theorem lkX4_takeLong_f12 : Cond.fieldLink RX4 12 (TX4 0).1 (TX4 0).2.1 (TX4 0).2.2.1 ∈ wsX4_takeLong := by decide +kernel
theorem ndX4_takeLong : yX4_takeLong.cls ≠ "java/lang/invoke/MethodHandle" ∧ yX4_takeLong.cls ≠ "java/lang/invoke/VarHandle" ∧ (parseMethodDescriptor yX4_takeLong.desc).map (fun d => d.parameters.length) = some 1 := by decide +kernel
set_option maxRecDepth 100000 in
set_option maxHeartbeats 4000000 in
theorem wX4_takeLong_31 {p : Program} {l : Launch} {e : Env} {s : State} {m : MethodId} {args : Array Value} {below : List Frame} {meth : Method} {c : Code} {G : hp_G} {h0 h' : hp_H}  (X : hp_X p s m args meth c cX4_takeLong 3 RX4 wsX4_takeLong none G)     {t0 : Nat} {t1 : Int32} {h : hp_H} {H : Heap} {locs : List Loc} {ls : Array Slot} (Y : hp_Y G h h0 s H locs) (hl : lv_has ls 3 []) (hF : bX4_takeLong_31  t0 t1 h = some h') : W p l e rmX4_takeLong s m args below meth c H locs 0 0 (MQ below (va_Qv (fun u => u = h') (hp_B G h0) (hp_A h0)) args s 0 0 (hp_A h0)) (F0 m 31 ls [.int t1, .ref t0]) := by
  unfold bX4_takeLong_31 at hF
  obtain ⟨e3, hF⟩ := hp_ift hF
  obtain ⟨h1, e2, hF⟩ := hp_b hF
  refine hp_put X Y (C := RX4) (T := TX4) (N := 2) (ci := 4) (k := 1) (ty0 := tyX4) rfl inX4_takeLong_X4 tyX4_ok nmX4 (by decide) lkX4_takeLong_f22 rfl (hp_bo_n e3) (hp_bo_f e3) e2 dX4_takeLong_31 (fun H locs Y => ?_)
  cases hF
  exact hp_rv X Y rfl dX4_takeLong_34
set_option maxRecDepth 100000 in
set_option maxHeartbeats 4000000 in
theorem wX4_takeLong_16 {p : Program} {l : Launch} {e : Env} {s : State} {m : MethodId} {args : Array Value} {below : List Frame} {meth : Method} {c : Code} {G : hp_G} {h0 h' : hp_H}  (X : hp_X p s m args meth c cX4_takeLong 3 RX4 wsX4_takeLong none G)  {x0 : Nat} {x1 : Int64}   {t0 : Nat} {t1 : Int64} {h : hp_H} {H : Heap} {locs : List Loc} {ls : Array Slot} (Y : hp_Y G h h0 s H locs) (hl : lv_has ls 3 [(0, .ref x0), (1, .long x1)]) (hF : bX4_takeLong_16 x0 x1 t0 t1 h = some h') : W p l e rmX4_takeLong s m args below meth c H locs 0 0 (MQ below (va_Qv (fun u => u = h') (hp_B G h0) (hp_A h0)) args s 0 0 (hp_A h0)) (F0 m 16 ls [.long t1, .ref t0]) := by
  unfold bX4_takeLong_16 at hF
  obtain ⟨h2, e1, hF⟩ := hp_b hF
  refine hp_cv Y (hp_runV X Y (ci := 2) (As := [.long t1]) (n := 1) (T := TX2) (N := 2) (mX2_takeUnsigned l G e1) rfl (oX2_takeUnsigned e1) gX4_takeLong_X2_takeUnsigned rfl rfl rfl ndX2_takeUnsigned ⟨Nat.le_of_ble_eq_true rfl, Nat.le_of_ble_eq_true rfl⟩ rfl hl.1 rfl (Nat.le_of_ble_eq_true rfl) dX4_takeLong_16 ⟨Nat.zero_le _, Nat.zero_le _⟩) (fun H locs Y => ?_)
  refine lv_aload_n X.1 X.2.1 dX4_takeLong_19 rfl (lv_at hl 0 rfl) ?_
  refine lv_lload_n X.1 X.2.1 dX4_takeLong_20 rfl (lv_at hl 1 rfl) ?_
  refine lv_lconst (v := 0) X.1 X.2.1 dX4_takeLong_21 (by decide) ?_
  refine W.lcmp X.1 X.2.1 dX4_takeLong_22 ?_
  refine lv_if_ge (tgt := 30) X.1 X.2.1 dX4_takeLong_23 (by decide) (fun c3 => ?_) (fun c3 => ?_)
  · have hF := hp_ifp ((lg_cmp_ge x1 (0 : Int64)).mp c3) hF
    refine lv_iconst (v := 0) X.1 X.2.1 dX4_takeLong_30 (by decide) ?_
    exact wX4_takeLong_31 X  Y (lv_sub hl [] rfl) hF
  · have hF := hp_ifn (fun z => c3 ((lg_cmp_ge x1 (0 : Int64)).mpr z)) hF
    refine lv_iconst (v := 1) X.1 X.2.1 dX4_takeLong_26 (by decide) ?_
    refine lv_goto (tgt := 31) X.1 X.2.1 dX4_takeLong_27 (by decide) ?_
    exact wX4_takeLong_31 X  Y (lv_sub hl [] rfl) hF
theorem oX4_takeLong {x0 : Nat} {x1 : Int64} {h h' : hp_H}  (hF : fX4_takeLong x0 x1 h = some h') : hp_o h x0 4 = true := by
  unfold fX4_takeLong at hF
  exact (hp_ift hF).1
set_option maxRecDepth 100000 in
set_option maxHeartbeats 4000000 in
theorem mX4_takeLong (l : Launch) (G : hp_G) {x0 : Nat} {x1 : Int64} {h h' : hp_H}  (hF : fX4_takeLong x0 x1 h = some h') : Met l yX4_takeLong wsX4_takeLong rmX4_takeLong (va_Pc [.ref x0, .long x1] (hp_S G h)) (va_Qv (fun u => u = h') (hp_B G h) (hp_A h)) 0 0 (hp_A h) := by
  refine hp_met (cc := cX4_takeLong) (nL := 3) (ret := none) (by decide) rfl ?_
  intro p e s m below meth c X Y
  have hl := lv_entry ([.ref x0, .long x1]) (n := 3) (Nat.le_of_ble_eq_true rfl)
  rw [lg_entry_eq]
  generalize (lg_sl ([.ref x0, .long x1]) ++ List.replicate (3 - (lg_sl ([.ref x0, .long x1])).length) Slot.unset).toArray = ls at hl ⊢
  have hl : lv_has ls 3 [(0, .ref x0), (1, .long x1)] := hl
  unfold fX4_takeLong at hF
  obtain ⟨ho, hF⟩ := hp_ift hF
  refine lv_aload_n X.1 X.2.1 dX4_takeLong_0 rfl (lv_at hl 0 rfl) ?_
  obtain ⟨v1, e2, hF⟩ := hp_b hF
  refine hp_getr X Y (C := RX4) (T := TX4) (N := 2) (ci := 4) (k := 0) rfl inX4_takeLong_X4 (by decide) lkX4_takeLong_f12 e2 dX4_takeLong_1 ?_
  refine lv_lload_n X.1 X.2.1 dX4_takeLong_4 rfl (lv_at hl 1 rfl) ?_
  refine lv_lconst (v := 0) X.1 X.2.1 dX4_takeLong_5 (by decide) ?_
  refine W.lcmp X.1 X.2.1 dX4_takeLong_6 ?_
  refine lv_if_ge (tgt := 15) X.1 X.2.1 dX4_takeLong_7 (by decide) (fun c3 => ?_) (fun c3 => ?_)
  · have hF := hp_ifp ((lg_cmp_ge x1 (0 : Int64)).mp c3) hF
    refine lv_lload_n X.1 X.2.1 dX4_takeLong_15 rfl (lv_at hl 1 rfl) ?_
    exact wX4_takeLong_16 X  Y (lv_sub hl [0, 1] rfl) hF
  · have hF := hp_ifn (fun z => c3 ((lg_cmp_ge x1 (0 : Int64)).mpr z)) hF
    refine lv_lload_n X.1 X.2.1 dX4_takeLong_10 rfl (lv_at hl 1 rfl) ?_
    refine lv_lneg X.1 X.2.1 dX4_takeLong_11 ?_
    refine lv_goto (tgt := 16) X.1 X.2.1 dX4_takeLong_12 (by decide) ?_
    exact wX4_takeLong_16 X  Y (lv_sub hl [0, 1] rfl) hF

/-! WholeNumbers$Whole.takeSign -/
def rmX4_takeSign : Room := { frames := 1, cells := 0, slots := 0, locals := 20 }
def bX4_takeSign_20   (t0 : Nat) (t1 : Int32) (h : hp_H) : Option hp_H :=
  if hp_bo t1 then
  (hp_pv h t0 4 1 (.int t1)).bind fun h1 =>
  some h1
  else none
def bX4_takeSign_19   (t0 : Nat) (h : hp_H) : Option hp_H :=
  bX4_takeSign_20 t0 (0 : Int32) h
def fX4_takeSign (x0 : Nat) (x1 : Int32) (h : hp_H) : Option hp_H :=
  if hp_o h x0 4 = true then
  if x1 = 0 then (
    bX4_takeSign_19 x0 h)
  else (
    (hp_gr h x0 4 0).bind fun v2 =>
    (fX2_isZero v2 h).bind fun v5 =>
    if v5 = 0 then (
      bX4_takeSign_20 x0 (1 : Int32) h)
    else (
      bX4_takeSign_19 x0 h))
  else none
theorem inX4_takeSign_X4 : ∀ w ∈ wsX40, w ∈ wsX4_takeSign := by decide +kernel
theorem lkX4_takeSign_f22 : Cond.fieldLink RX4 22 (TX4 1).1 (TX4 1).2.1 (TX4 1).2.2.1 ∈ wsX4_takeSign := by decide +kernel
theorem lkX4_takeSign_f12 : Cond.fieldLink RX4 12 (TX4 0).1 (TX4 0).2.1 (TX4 0).2.2.1 ∈ wsX4_takeSign := by decide +kernel
theorem ndX4_takeSign : yX4_takeSign.cls ≠ "java/lang/invoke/MethodHandle" ∧ yX4_takeSign.cls ≠ "java/lang/invoke/VarHandle" ∧ (parseMethodDescriptor yX4_takeSign.desc).map (fun d => d.parameters.length) = some 1 := by decide +kernel
set_option maxRecDepth 100000 in
set_option maxHeartbeats 4000000 in
theorem wX4_takeSign_20 {p : Program} {l : Launch} {e : Env} {s : State} {m : MethodId} {args : Array Value} {below : List Frame} {meth : Method} {c : Code} {G : hp_G} {h0 h' : hp_H}  (X : hp_X p s m args meth c cX4_takeSign 2 RX4 wsX4_takeSign none G)     {t0 : Nat} {t1 : Int32} {h : hp_H} {H : Heap} {locs : List Loc} {ls : Array Slot} (Y : hp_Y G h h0 s H locs) (hl : lv_has ls 2 []) (hF : bX4_takeSign_20  t0 t1 h = some h') : W p l e rmX4_takeSign s m args below meth c H locs 0 0 (MQ below (va_Qv (fun u => u = h') (hp_B G h0) (hp_A h0)) args s 0 0 (hp_A h0)) (F0 m 20 ls [.int t1, .ref t0]) := by
  unfold bX4_takeSign_20 at hF
  obtain ⟨e3, hF⟩ := hp_ift hF
  obtain ⟨h1, e2, hF⟩ := hp_b hF
  refine hp_put X Y (C := RX4) (T := TX4) (N := 2) (ci := 4) (k := 1) (ty0 := tyX4) rfl inX4_takeSign_X4 tyX4_ok nmX4 (by decide) lkX4_takeSign_f22 rfl (hp_bo_n e3) (hp_bo_f e3) e2 dX4_takeSign_20 (fun H locs Y => ?_)
  cases hF
  exact hp_rv X Y rfl dX4_takeSign_23
set_option maxRecDepth 100000 in
set_option maxHeartbeats 4000000 in
theorem wX4_takeSign_19 {p : Program} {l : Launch} {e : Env} {s : State} {m : MethodId} {args : Array Value} {below : List Frame} {meth : Method} {c : Code} {G : hp_G} {h0 h' : hp_H}  (X : hp_X p s m args meth c cX4_takeSign 2 RX4 wsX4_takeSign none G)     {t0 : Nat} {h : hp_H} {H : Heap} {locs : List Loc} {ls : Array Slot} (Y : hp_Y G h h0 s H locs) (hl : lv_has ls 2 []) (hF : bX4_takeSign_19  t0 h = some h') : W p l e rmX4_takeSign s m args below meth c H locs 0 0 (MQ below (va_Qv (fun u => u = h') (hp_B G h0) (hp_A h0)) args s 0 0 (hp_A h0)) (F0 m 19 ls [.ref t0]) := by
  unfold bX4_takeSign_19 at hF
  refine lv_iconst (v := 0) X.1 X.2.1 dX4_takeSign_19 (by decide) ?_
  exact wX4_takeSign_20 X  Y (lv_sub hl [] rfl) hF
theorem oX4_takeSign {x0 : Nat} {x1 : Int32} {h h' : hp_H}  (hF : fX4_takeSign x0 x1 h = some h') : hp_o h x0 4 = true := by
  unfold fX4_takeSign at hF
  exact (hp_ift hF).1
set_option maxRecDepth 100000 in
set_option maxHeartbeats 4000000 in
theorem mX4_takeSign (l : Launch) (G : hp_G) {x0 : Nat} {x1 : Int32} {h h' : hp_H}  (hF : fX4_takeSign x0 x1 h = some h') : Met l yX4_takeSign wsX4_takeSign rmX4_takeSign (va_Pc [.ref x0, .int x1] (hp_S G h)) (va_Qv (fun u => u = h') (hp_B G h) (hp_A h)) 0 0 (hp_A h) := by
  refine hp_met (cc := cX4_takeSign) (nL := 2) (ret := none) (by decide) rfl ?_
  intro p e s m below meth c X Y
  have hl := lv_entry ([.ref x0, .int x1]) (n := 2) (Nat.le_of_ble_eq_true rfl)
  rw [lg_entry_eq]
  generalize (lg_sl ([.ref x0, .int x1]) ++ List.replicate (2 - (lg_sl ([.ref x0, .int x1])).length) Slot.unset).toArray = ls at hl ⊢
  have hl : lv_has ls 2 [(0, .ref x0), (1, .int x1)] := hl
  unfold fX4_takeSign at hF
  obtain ⟨ho, hF⟩ := hp_ift hF
  refine lv_aload_n X.1 X.2.1 dX4_takeSign_0 rfl (lv_at hl 0 rfl) ?_
  refine lv_iload_n X.1 X.2.1 dX4_takeSign_1 rfl (lv_at hl 1 rfl) ?_
  refine lv_if_eq (tgt := 19) X.1 X.2.1 dX4_takeSign_2 (by decide) (fun c1 => ?_) (fun c1 => ?_)
  · have hF := hp_ifp (c1) hF
    exact wX4_takeSign_19 X  Y (lv_sub hl [] rfl) hF
  · have hF := hp_ifn (c1) hF
    refine lv_aload_n X.1 X.2.1 dX4_takeSign_5 rfl (lv_at hl 0 rfl) ?_
    obtain ⟨v2, e3, hF⟩ := hp_b hF
    refine hp_getr X Y (C := RX4) (T := TX4) (N := 2) (ci := 4) (k := 0) rfl inX4_takeSign_X4 (by decide) lkX4_takeSign_f12 e3 dX4_takeSign_6 ?_
    obtain ⟨v5, e4, hF⟩ := hp_b hF
    refine hp_ci Y (hp_runV X Y (ci := 2) (As := []) (n := 0) (T := TX2) (N := 2) (mX2_isZero l G e4) rfl (oX2_isZero e4) gX4_takeSign_X2_isZero rfl rfl rfl ndX2_isZero ⟨Nat.le_of_ble_eq_true rfl, Nat.le_of_ble_eq_true rfl⟩ rfl hl.1 rfl (Nat.le_of_ble_eq_true rfl) dX4_takeSign_9 ⟨Nat.zero_le _, Nat.zero_le _⟩) (fun H locs Y => ?_)
    refine lv_if_ne (tgt := 19) X.1 X.2.1 dX4_takeSign_12 (by decide) (fun c6 => ?_) (fun c6 => ?_)
    · have hF := hp_ifn (c6) hF
      exact wX4_takeSign_19 X  Y (lv_sub hl [] rfl) hF
    · have hF := hp_ifp (c6) hF
      refine lv_iconst (v := 1) X.1 X.2.1 dX4_takeSign_15 (by decide) ?_
      refine lv_goto (tgt := 20) X.1 X.2.1 dX4_takeSign_16 (by decide) ?_
      exact wX4_takeSign_20 X  Y (lv_sub hl [] rfl) hF

/-! WholeNumbers$Whole.takeSum -/
def rmX4_takeSum : Room := { frames := 3, cells := 0, slots := 0, locals := 69 }
def fX4_takeSum (x0 : Nat) (x1 : Nat) (x2 : Nat) (x3 : Int32) (h : hp_H) : Option hp_H :=
  if hp_o h x0 4 = true then
  (hp_gi h x1 4 1).bind fun v1 =>
  if v1 = x3 then (
    (hp_gr h x0 4 0).bind fun v33 =>
    (hp_gr h x1 4 0).bind fun v35 =>
    (hp_gr h x2 4 0).bind fun v37 =>
    (fX2_takeSum v33 v35 v37 h).bind fun h40 =>
    (fX4_takeSign x0 x3 h40).bind fun h42 =>
    some h42)
  else (
    (hp_gr h x1 4 0).bind fun v4 =>
    (hp_gr h x2 4 0).bind fun v6 =>
    (fX2_order v4 v6 h).bind fun v9 =>
    if v9 < 0 then (
      (hp_gr h x0 4 0).bind fun v11 =>
      (hp_gr h x2 4 0).bind fun v13 =>
      (hp_gr h x1 4 0).bind fun v15 =>
      (fX2_takeDifference v11 v13 v15 h).bind fun h18 =>
      (fX4_takeSign x0 x3 h18).bind fun h20 =>
      some h20)
    else (
      (hp_gr h x0 4 0).bind fun v21 =>
      (hp_gr h x1 4 0).bind fun v23 =>
      (hp_gr h x2 4 0).bind fun v25 =>
      (fX2_takeDifference v21 v23 v25 h).bind fun h28 =>
      (hp_gi h28 x1 4 1).bind fun v29 =>
      (fX4_takeSign x0 v29 h28).bind fun h32 =>
      some h32))
  else none
theorem inX4_takeSum_X4 : ∀ w ∈ wsX40, w ∈ wsX4_takeSum := by decide +kernel
theorem lkX4_takeSum_f22 : Cond.fieldLink RX4 22 (TX4 1).1 (TX4 1).2.1 (TX4 1).2.2.1 ∈ wsX4_takeSum := by decide +kernel
theorem lkX4_takeSum_f12 : Cond.fieldLink RX4 12 (TX4 0).1 (TX4 0).2.1 (TX4 0).2.2.1 ∈ wsX4_takeSum := by decide +kernel
theorem ndX4_takeSum : yX4_takeSum.cls ≠ "java/lang/invoke/MethodHandle" ∧ yX4_takeSum.cls ≠ "java/lang/invoke/VarHandle" ∧ (parseMethodDescriptor yX4_takeSum.desc).map (fun d => d.parameters.length) = some 3 := by decide +kernel
theorem oX4_takeSum {x0 : Nat} {x1 : Nat} {x2 : Nat} {x3 : Int32} {h h' : hp_H}  (hF : fX4_takeSum x0 x1 x2 x3 h = some h') : hp_o h x0 4 = true := by
  unfold fX4_takeSum at hF
  exact (hp_ift hF).1
set_option maxRecDepth 100000 in
set_option maxHeartbeats 4000000 in
theorem mX4_takeSum (l : Launch) (G : hp_G) {x0 : Nat} {x1 : Nat} {x2 : Nat} {x3 : Int32} {h h' : hp_H}  (hF : fX4_takeSum x0 x1 x2 x3 h = some h') : Met l yX4_takeSum wsX4_takeSum rmX4_takeSum (va_Pc [.ref x0, .ref x1, .ref x2, .int x3] (hp_S G h)) (va_Qv (fun u => u = h') (hp_B G h) (hp_A h)) 0 0 (hp_A h) := by
  refine hp_met (cc := cX4_takeSum) (nL := 4) (ret := none) (by decide) rfl ?_
  intro p e s m below meth c X Y
  have hl := lv_entry ([.ref x0, .ref x1, .ref x2, .int x3]) (n := 4) (Nat.le_of_ble_eq_true rfl)
  rw [lg_entry_eq]
  generalize (lg_sl ([.ref x0, .ref x1, .ref x2, .int x3]) ++ List.replicate (4 - (lg_sl ([.ref x0, .ref x1, .ref x2, .int x3])).length) Slot.unset).toArray = ls at hl ⊢
  have hl : lv_has ls 4 [(0, .ref x0), (1, .ref x1), (2, .ref x2), (3, .int x3)] := hl
  unfold fX4_takeSum at hF
  obtain ⟨ho, hF⟩ := hp_ift hF
  refine lv_aload_n X.1 X.2.1 dX4_takeSum_0 rfl (lv_at hl 1 rfl) ?_
  obtain ⟨v1, e2, hF⟩ := hp_b hF
  refine hp_geti X Y (C := RX4) (T := TX4) (N := 2) (ci := 4) (k := 1) rfl inX4_takeSum_X4 (by decide) lkX4_takeSum_f22 e2 dX4_takeSum_1 ?_
  refine lv_iload_n X.1 X.2.1 dX4_takeSum_4 rfl (lv_at hl 3 rfl) ?_
  refine lv_icmp_ne (tgt := 31) X.1 X.2.1 dX4_takeSum_5 (by decide) (fun c3 => ?_) (fun c3 => ?_)
  · have hF := hp_ifn (c3) hF
    refine lv_aload_n X.1 X.2.1 dX4_takeSum_31 rfl (lv_at hl 1 rfl) ?_
    obtain ⟨v4, e5, hF⟩ := hp_b hF
    refine hp_getr X Y (C := RX4) (T := TX4) (N := 2) (ci := 4) (k := 0) rfl inX4_takeSum_X4 (by decide) lkX4_takeSum_f12 e5 dX4_takeSum_32 ?_
    refine lv_aload_n X.1 X.2.1 dX4_takeSum_35 rfl (lv_at hl 2 rfl) ?_
    obtain ⟨v6, e7, hF⟩ := hp_b hF
    refine hp_getr X Y (C := RX4) (T := TX4) (N := 2) (ci := 4) (k := 0) rfl inX4_takeSum_X4 (by decide) lkX4_takeSum_f12 e7 dX4_takeSum_36 ?_
    obtain ⟨v9, e8, hF⟩ := hp_b hF
    refine hp_ci Y (hp_runV X Y (ci := 2) (As := [.ref v6]) (n := 1) (T := TX2) (N := 2) (mX2_order l G e8) rfl (oX2_order e8) gX4_takeSum_X2_order rfl rfl rfl ndX2_order ⟨Nat.le_of_ble_eq_true rfl, Nat.le_of_ble_eq_true rfl⟩ rfl hl.1 rfl (Nat.le_of_ble_eq_true rfl) dX4_takeSum_39 ⟨Nat.zero_le _, Nat.zero_le _⟩) (fun H locs Y => ?_)
    refine lv_if_lt (tgt := 71) X.1 X.2.1 dX4_takeSum_42 (by decide) (fun c10 => ?_) (fun c10 => ?_)
    · have hF := hp_ifp (c10) hF
      refine lv_aload_n X.1 X.2.1 dX4_takeSum_71 rfl (lv_at hl 0 rfl) ?_
      obtain ⟨v11, e12, hF⟩ := hp_b hF
      refine hp_getr X Y (C := RX4) (T := TX4) (N := 2) (ci := 4) (k := 0) rfl inX4_takeSum_X4 (by decide) lkX4_takeSum_f12 e12 dX4_takeSum_72 ?_
      refine lv_aload_n X.1 X.2.1 dX4_takeSum_75 rfl (lv_at hl 2 rfl) ?_
      obtain ⟨v13, e14, hF⟩ := hp_b hF
      refine hp_getr X Y (C := RX4) (T := TX4) (N := 2) (ci := 4) (k := 0) rfl inX4_takeSum_X4 (by decide) lkX4_takeSum_f12 e14 dX4_takeSum_76 ?_
      refine lv_aload_n X.1 X.2.1 dX4_takeSum_79 rfl (lv_at hl 1 rfl) ?_
      obtain ⟨v15, e16, hF⟩ := hp_b hF
      refine hp_getr X Y (C := RX4) (T := TX4) (N := 2) (ci := 4) (k := 0) rfl inX4_takeSum_X4 (by decide) lkX4_takeSum_f12 e16 dX4_takeSum_80 ?_
      obtain ⟨h18, e17, hF⟩ := hp_b hF
      refine hp_cv Y (hp_runV X Y (ci := 2) (As := [.ref v13, .ref v15]) (n := 2) (T := TX2) (N := 2) (mX2_takeDifference l G e17) rfl (oX2_takeDifference e17) gX4_takeSum_X2_takeDifference rfl rfl rfl ndX2_takeDifference ⟨Nat.le_of_ble_eq_true rfl, Nat.le_of_ble_eq_true rfl⟩ rfl hl.1 rfl (Nat.le_of_ble_eq_true rfl) dX4_takeSum_83 ⟨Nat.zero_le _, Nat.zero_le _⟩) (fun H locs Y => ?_)
      refine lv_aload_n X.1 X.2.1 dX4_takeSum_86 rfl (lv_at hl 0 rfl) ?_
      refine lv_iload_n X.1 X.2.1 dX4_takeSum_87 rfl (lv_at hl 3 rfl) ?_
      obtain ⟨h20, e19, hF⟩ := hp_b hF
      refine hp_cv Y (hp_runV X Y (ci := 4) (As := [.int x3]) (n := 1) (T := TX4) (N := 2) (mX4_takeSign l G e19) rfl (oX4_takeSign e19) gX4_takeSum_X4_takeSign rfl rfl rfl ndX4_takeSign ⟨Nat.le_of_ble_eq_true rfl, Nat.le_of_ble_eq_true rfl⟩ rfl hl.1 rfl (Nat.le_of_ble_eq_true rfl) dX4_takeSum_88 ⟨Nat.zero_le _, Nat.zero_le _⟩) (fun H locs Y => ?_)
      cases hF
      exact hp_rv X Y rfl dX4_takeSum_91
    · have hF := hp_ifn (c10) hF
      refine lv_aload_n X.1 X.2.1 dX4_takeSum_45 rfl (lv_at hl 0 rfl) ?_
      obtain ⟨v21, e22, hF⟩ := hp_b hF
      refine hp_getr X Y (C := RX4) (T := TX4) (N := 2) (ci := 4) (k := 0) rfl inX4_takeSum_X4 (by decide) lkX4_takeSum_f12 e22 dX4_takeSum_46 ?_
      refine lv_aload_n X.1 X.2.1 dX4_takeSum_49 rfl (lv_at hl 1 rfl) ?_
      obtain ⟨v23, e24, hF⟩ := hp_b hF
      refine hp_getr X Y (C := RX4) (T := TX4) (N := 2) (ci := 4) (k := 0) rfl inX4_takeSum_X4 (by decide) lkX4_takeSum_f12 e24 dX4_takeSum_50 ?_
      refine lv_aload_n X.1 X.2.1 dX4_takeSum_53 rfl (lv_at hl 2 rfl) ?_
      obtain ⟨v25, e26, hF⟩ := hp_b hF
      refine hp_getr X Y (C := RX4) (T := TX4) (N := 2) (ci := 4) (k := 0) rfl inX4_takeSum_X4 (by decide) lkX4_takeSum_f12 e26 dX4_takeSum_54 ?_
      obtain ⟨h28, e27, hF⟩ := hp_b hF
      refine hp_cv Y (hp_runV X Y (ci := 2) (As := [.ref v23, .ref v25]) (n := 2) (T := TX2) (N := 2) (mX2_takeDifference l G e27) rfl (oX2_takeDifference e27) gX4_takeSum_X2_takeDifference rfl rfl rfl ndX2_takeDifference ⟨Nat.le_of_ble_eq_true rfl, Nat.le_of_ble_eq_true rfl⟩ rfl hl.1 rfl (Nat.le_of_ble_eq_true rfl) dX4_takeSum_57 ⟨Nat.zero_le _, Nat.zero_le _⟩) (fun H locs Y => ?_)
      refine lv_aload_n X.1 X.2.1 dX4_takeSum_60 rfl (lv_at hl 0 rfl) ?_
      refine lv_aload_n X.1 X.2.1 dX4_takeSum_61 rfl (lv_at hl 1 rfl) ?_
      obtain ⟨v29, e30, hF⟩ := hp_b hF
      refine hp_geti X Y (C := RX4) (T := TX4) (N := 2) (ci := 4) (k := 1) rfl inX4_takeSum_X4 (by decide) lkX4_takeSum_f22 e30 dX4_takeSum_62 ?_
      obtain ⟨h32, e31, hF⟩ := hp_b hF
      refine hp_cv Y (hp_runV X Y (ci := 4) (As := [.int v29]) (n := 1) (T := TX4) (N := 2) (mX4_takeSign l G e31) rfl (oX4_takeSign e31) gX4_takeSum_X4_takeSign rfl rfl rfl ndX4_takeSign ⟨Nat.le_of_ble_eq_true rfl, Nat.le_of_ble_eq_true rfl⟩ rfl hl.1 rfl (Nat.le_of_ble_eq_true rfl) dX4_takeSum_65 ⟨Nat.zero_le _, Nat.zero_le _⟩) (fun H locs Y => ?_)
      refine lv_goto (tgt := 91) X.1 X.2.1 dX4_takeSum_68 (by decide) ?_
      cases hF
      exact hp_rv X Y rfl dX4_takeSum_91
  · have hF := hp_ifp (c3) hF
    refine lv_aload_n X.1 X.2.1 dX4_takeSum_8 rfl (lv_at hl 0 rfl) ?_
    obtain ⟨v33, e34, hF⟩ := hp_b hF
    refine hp_getr X Y (C := RX4) (T := TX4) (N := 2) (ci := 4) (k := 0) rfl inX4_takeSum_X4 (by decide) lkX4_takeSum_f12 e34 dX4_takeSum_9 ?_
    refine lv_aload_n X.1 X.2.1 dX4_takeSum_12 rfl (lv_at hl 1 rfl) ?_
    obtain ⟨v35, e36, hF⟩ := hp_b hF
    refine hp_getr X Y (C := RX4) (T := TX4) (N := 2) (ci := 4) (k := 0) rfl inX4_takeSum_X4 (by decide) lkX4_takeSum_f12 e36 dX4_takeSum_13 ?_
    refine lv_aload_n X.1 X.2.1 dX4_takeSum_16 rfl (lv_at hl 2 rfl) ?_
    obtain ⟨v37, e38, hF⟩ := hp_b hF
    refine hp_getr X Y (C := RX4) (T := TX4) (N := 2) (ci := 4) (k := 0) rfl inX4_takeSum_X4 (by decide) lkX4_takeSum_f12 e38 dX4_takeSum_17 ?_
    obtain ⟨h40, e39, hF⟩ := hp_b hF
    refine hp_cv Y (hp_runV X Y (ci := 2) (As := [.ref v35, .ref v37]) (n := 2) (T := TX2) (N := 2) (mX2_takeSum l G e39) rfl (oX2_takeSum e39) gX4_takeSum_X2_takeSum rfl rfl rfl ndX2_takeSum ⟨Nat.le_of_ble_eq_true rfl, Nat.le_of_ble_eq_true rfl⟩ rfl hl.1 rfl (Nat.le_of_ble_eq_true rfl) dX4_takeSum_20 ⟨Nat.zero_le _, Nat.zero_le _⟩) (fun H locs Y => ?_)
    refine lv_aload_n X.1 X.2.1 dX4_takeSum_23 rfl (lv_at hl 0 rfl) ?_
    refine lv_iload_n X.1 X.2.1 dX4_takeSum_24 rfl (lv_at hl 3 rfl) ?_
    obtain ⟨h42, e41, hF⟩ := hp_b hF
    refine hp_cv Y (hp_runV X Y (ci := 4) (As := [.int x3]) (n := 1) (T := TX4) (N := 2) (mX4_takeSign l G e41) rfl (oX4_takeSign e41) gX4_takeSum_X4_takeSign rfl rfl rfl ndX4_takeSign ⟨Nat.le_of_ble_eq_true rfl, Nat.le_of_ble_eq_true rfl⟩ rfl hl.1 rfl (Nat.le_of_ble_eq_true rfl) dX4_takeSum_25 ⟨Nat.zero_le _, Nat.zero_le _⟩) (fun H locs Y => ?_)
    refine lv_goto (tgt := 91) X.1 X.2.1 dX4_takeSum_28 (by decide) ?_
    cases hF
    exact hp_rv X Y rfl dX4_takeSum_91

/-! WholeNumbers$Whole.takeProduct -/
def rmX4_takeProduct : Room := { frames := 3, cells := 0, slots := 0, locals := 67 }
def bX4_takeProduct_55   (t0 : Nat) (t1 : Int32) (h : hp_H) : Option (Int32 × hp_H) :=
  (fX4_takeSign t0 t1 h).bind fun h2 =>
  some ((1 : Int32), h2)
def fX4_takeProduct (x0 : Nat) (x1 : Nat) (x2 : Nat) (h : hp_H) : Option (Int32 × hp_H) :=
  if hp_o h x0 4 = true then
  (hp_gr h x1 4 0).bind fun v1 =>
  (fX2_bitLength v1 h).bind fun v4 =>
  (hp_gr h x2 4 0).bind fun v5 =>
  (fX2_bitLength v5 h).bind fun v8 =>
  if (v4 + v8) ≤ (4097 : Int32) then (
    (hp_gr h x0 4 0).bind fun v10 =>
    (hp_gr h x1 4 0).bind fun v12 =>
    (hp_gr h x2 4 0).bind fun v14 =>
    (fX2_takeProduct v10 v12 v14 h).bind fun h17 =>
    (hp_gi h17 x1 4 1).bind fun v18 =>
    (hp_gi h17 x2 4 1).bind fun v20 =>
    if v18 = v20 then (
      bX4_takeProduct_55 x0 (0 : Int32) h17)
    else (
      bX4_takeProduct_55 x0 (1 : Int32) h17))
  else (
    some ((0 : Int32), h))
  else none
theorem inX4_takeProduct_X4 : ∀ w ∈ wsX40, w ∈ wsX4_takeProduct := by decide +kernel
theorem lkX4_takeProduct_f12 : Cond.fieldLink RX4 12 (TX4 0).1 (TX4 0).2.1 (TX4 0).2.2.1 ∈ wsX4_takeProduct := by decide +kernel
theorem lkX4_takeProduct_f22 : Cond.fieldLink RX4 22 (TX4 1).1 (TX4 1).2.1 (TX4 1).2.2.1 ∈ wsX4_takeProduct := by decide +kernel
theorem ndX4_takeProduct : yX4_takeProduct.cls ≠ "java/lang/invoke/MethodHandle" ∧ yX4_takeProduct.cls ≠ "java/lang/invoke/VarHandle" ∧ (parseMethodDescriptor yX4_takeProduct.desc).map (fun d => d.parameters.length) = some 2 := by decide +kernel
set_option maxRecDepth 100000 in
set_option maxHeartbeats 4000000 in
theorem wX4_takeProduct_55 {p : Program} {l : Launch} {e : Env} {s : State} {m : MethodId} {args : Array Value} {below : List Frame} {meth : Method} {c : Code} {G : hp_G} {h0 h' : hp_H} {r : Int32} (X : hp_X p s m args meth c cX4_takeProduct 3 RX4 wsX4_takeProduct (some .boolean) G)     {t0 : Nat} {t1 : Int32} {h : hp_H} {H : Heap} {locs : List Loc} {ls : Array Slot} (Y : hp_Y G h h0 s H locs) (hl : lv_has ls 3 []) (hF : bX4_takeProduct_55  t0 t1 h = some (r, h')) : W p l e rmX4_takeProduct s m args below meth c H locs 0 0 (MQ below (va_Qi (fun r' u => r' = r ∧ u = h') (hp_B G h0) (hp_A h0)) args s 0 0 (hp_A h0)) (F0 m 55 ls [.int t1, .ref t0]) := by
  unfold bX4_takeProduct_55 at hF
  obtain ⟨h2, e1, hF⟩ := hp_b hF
  refine hp_cv Y (hp_runV X Y (ci := 4) (As := [.int t1]) (n := 1) (T := TX4) (N := 2) (mX4_takeSign l G e1) rfl (oX4_takeSign e1) gX4_takeProduct_X4_takeSign rfl rfl rfl ndX4_takeSign ⟨Nat.le_of_ble_eq_true rfl, Nat.le_of_ble_eq_true rfl⟩ rfl hl.1 rfl (Nat.le_of_ble_eq_true rfl) dX4_takeProduct_55 ⟨Nat.zero_le _, Nat.zero_le _⟩) (fun H locs Y => ?_)
  refine lv_iconst (v := 1) X.1 X.2.1 dX4_takeProduct_58 (by decide) ?_
  cases hF
  exact hp_ri X Y rfl rfl dX4_takeProduct_59
theorem oX4_takeProduct {x0 : Nat} {x1 : Nat} {x2 : Nat} {h h' : hp_H} {r : Int32} (hF : fX4_takeProduct x0 x1 x2 h = some (r, h')) : hp_o h x0 4 = true := by
  unfold fX4_takeProduct at hF
  exact (hp_ift hF).1
set_option maxRecDepth 100000 in
set_option maxHeartbeats 4000000 in
theorem mX4_takeProduct (l : Launch) (G : hp_G) {x0 : Nat} {x1 : Nat} {x2 : Nat} {h h' : hp_H} {r : Int32} (hF : fX4_takeProduct x0 x1 x2 h = some (r, h')) : Met l yX4_takeProduct wsX4_takeProduct rmX4_takeProduct (va_Pc [.ref x0, .ref x1, .ref x2] (hp_S G h)) (va_Qi (fun r' u => r' = r ∧ u = h') (hp_B G h) (hp_A h)) 0 0 (hp_A h) := by
  refine hp_met (cc := cX4_takeProduct) (nL := 3) (ret := (some .boolean)) (by decide) rfl ?_
  intro p e s m below meth c X Y
  have hl := lv_entry ([.ref x0, .ref x1, .ref x2]) (n := 3) (Nat.le_of_ble_eq_true rfl)
  rw [lg_entry_eq]
  generalize (lg_sl ([.ref x0, .ref x1, .ref x2]) ++ List.replicate (3 - (lg_sl ([.ref x0, .ref x1, .ref x2])).length) Slot.unset).toArray = ls at hl ⊢
  have hl : lv_has ls 3 [(0, .ref x0), (1, .ref x1), (2, .ref x2)] := hl
  unfold fX4_takeProduct at hF
  obtain ⟨ho, hF⟩ := hp_ift hF
  refine lv_aload_n X.1 X.2.1 dX4_takeProduct_0 rfl (lv_at hl 1 rfl) ?_
  obtain ⟨v1, e2, hF⟩ := hp_b hF
  refine hp_getr X Y (C := RX4) (T := TX4) (N := 2) (ci := 4) (k := 0) rfl inX4_takeProduct_X4 (by decide) lkX4_takeProduct_f12 e2 dX4_takeProduct_1 ?_
  obtain ⟨v4, e3, hF⟩ := hp_b hF
  refine hp_ci Y (hp_runV X Y (ci := 2) (As := []) (n := 0) (T := TX2) (N := 2) (mX2_bitLength l G e3) rfl (oX2_bitLength e3) gX4_takeProduct_X2_bitLength rfl rfl rfl ndX2_bitLength ⟨Nat.le_of_ble_eq_true rfl, Nat.le_of_ble_eq_true rfl⟩ rfl hl.1 rfl (Nat.le_of_ble_eq_true rfl) dX4_takeProduct_4 ⟨Nat.zero_le _, Nat.zero_le _⟩) (fun H locs Y => ?_)
  refine lv_aload_n X.1 X.2.1 dX4_takeProduct_7 rfl (lv_at hl 2 rfl) ?_
  obtain ⟨v5, e6, hF⟩ := hp_b hF
  refine hp_getr X Y (C := RX4) (T := TX4) (N := 2) (ci := 4) (k := 0) rfl inX4_takeProduct_X4 (by decide) lkX4_takeProduct_f12 e6 dX4_takeProduct_8 ?_
  obtain ⟨v8, e7, hF⟩ := hp_b hF
  refine hp_ci Y (hp_runV X Y (ci := 2) (As := []) (n := 0) (T := TX2) (N := 2) (mX2_bitLength l G e7) rfl (oX2_bitLength e7) gX4_takeProduct_X2_bitLength rfl rfl rfl ndX2_bitLength ⟨Nat.le_of_ble_eq_true rfl, Nat.le_of_ble_eq_true rfl⟩ rfl hl.1 rfl (Nat.le_of_ble_eq_true rfl) dX4_takeProduct_11 ⟨Nat.zero_le _, Nat.zero_le _⟩) (fun H locs Y => ?_)
  refine lv_iadd X.1 X.2.1 dX4_takeProduct_14 ?_
  refine lv_sipush (v := 4097) X.1 X.2.1 dX4_takeProduct_15 (by decide) ?_
  refine lv_icmp_le (tgt := 23) X.1 X.2.1 dX4_takeProduct_18 (by decide) (fun c9 => ?_) (fun c9 => ?_)
  · have hF := hp_ifp (c9) hF
    refine lv_aload_n X.1 X.2.1 dX4_takeProduct_23 rfl (lv_at hl 0 rfl) ?_
    obtain ⟨v10, e11, hF⟩ := hp_b hF
    refine hp_getr X Y (C := RX4) (T := TX4) (N := 2) (ci := 4) (k := 0) rfl inX4_takeProduct_X4 (by decide) lkX4_takeProduct_f12 e11 dX4_takeProduct_24 ?_
    refine lv_aload_n X.1 X.2.1 dX4_takeProduct_27 rfl (lv_at hl 1 rfl) ?_
    obtain ⟨v12, e13, hF⟩ := hp_b hF
    refine hp_getr X Y (C := RX4) (T := TX4) (N := 2) (ci := 4) (k := 0) rfl inX4_takeProduct_X4 (by decide) lkX4_takeProduct_f12 e13 dX4_takeProduct_28 ?_
    refine lv_aload_n X.1 X.2.1 dX4_takeProduct_31 rfl (lv_at hl 2 rfl) ?_
    obtain ⟨v14, e15, hF⟩ := hp_b hF
    refine hp_getr X Y (C := RX4) (T := TX4) (N := 2) (ci := 4) (k := 0) rfl inX4_takeProduct_X4 (by decide) lkX4_takeProduct_f12 e15 dX4_takeProduct_32 ?_
    obtain ⟨h17, e16, hF⟩ := hp_b hF
    refine hp_cv Y (hp_runV X Y (ci := 2) (As := [.ref v12, .ref v14]) (n := 2) (T := TX2) (N := 2) (mX2_takeProduct l G e16) rfl (oX2_takeProduct e16) gX4_takeProduct_X2_takeProduct rfl rfl rfl ndX2_takeProduct ⟨Nat.le_of_ble_eq_true rfl, Nat.le_of_ble_eq_true rfl⟩ rfl hl.1 rfl (Nat.le_of_ble_eq_true rfl) dX4_takeProduct_35 ⟨Nat.zero_le _, Nat.zero_le _⟩) (fun H locs Y => ?_)
    refine lv_aload_n X.1 X.2.1 dX4_takeProduct_38 rfl (lv_at hl 0 rfl) ?_
    refine lv_aload_n X.1 X.2.1 dX4_takeProduct_39 rfl (lv_at hl 1 rfl) ?_
    obtain ⟨v18, e19, hF⟩ := hp_b hF
    refine hp_geti X Y (C := RX4) (T := TX4) (N := 2) (ci := 4) (k := 1) rfl inX4_takeProduct_X4 (by decide) lkX4_takeProduct_f22 e19 dX4_takeProduct_40 ?_
    refine lv_aload_n X.1 X.2.1 dX4_takeProduct_43 rfl (lv_at hl 2 rfl) ?_
    obtain ⟨v20, e21, hF⟩ := hp_b hF
    refine hp_geti X Y (C := RX4) (T := TX4) (N := 2) (ci := 4) (k := 1) rfl inX4_takeProduct_X4 (by decide) lkX4_takeProduct_f22 e21 dX4_takeProduct_44 ?_
    refine lv_icmp_eq (tgt := 54) X.1 X.2.1 dX4_takeProduct_47 (by decide) (fun c22 => ?_) (fun c22 => ?_)
    · have hF := hp_ifp (c22) hF
      refine lv_iconst (v := 0) X.1 X.2.1 dX4_takeProduct_54 (by decide) ?_
      exact wX4_takeProduct_55 X  Y (lv_sub hl [] rfl) hF
    · have hF := hp_ifn (c22) hF
      refine lv_iconst (v := 1) X.1 X.2.1 dX4_takeProduct_50 (by decide) ?_
      refine lv_goto (tgt := 55) X.1 X.2.1 dX4_takeProduct_51 (by decide) ?_
      exact wX4_takeProduct_55 X  Y (lv_sub hl [] rfl) hF
  · have hF := hp_ifn (c9) hF
    refine lv_iconst (v := 0) X.1 X.2.1 dX4_takeProduct_21 (by decide) ?_
    cases hF
    exact hp_ri X Y rfl rfl dX4_takeProduct_22

/-! WholeNumbers$Whole.direction -/
def rmX4_direction : Room := { frames := 1, cells := 0, slots := 0, locals := 20 }
def fX4_direction (x0 : Nat) (h : hp_H) : Option Int32 :=
  if hp_o h x0 4 = true then
  (hp_gr h x0 4 0).bind fun v1 =>
  (fX2_isZero v1 h).bind fun v4 =>
  if v4 = 0 then (
    (hp_gi h x0 4 1).bind fun v6 =>
    if v6 = 0 then (
      some (1 : Int32))
    else (
      some (-1 : Int32)))
  else (
    some (0 : Int32))
  else none
theorem inX4_direction_X4 : ∀ w ∈ wsX40, w ∈ wsX4_direction := by decide +kernel
theorem lkX4_direction_f12 : Cond.fieldLink RX4 12 (TX4 0).1 (TX4 0).2.1 (TX4 0).2.2.1 ∈ wsX4_direction := by decide +kernel
theorem lkX4_direction_f22 : Cond.fieldLink RX4 22 (TX4 1).1 (TX4 1).2.1 (TX4 1).2.2.1 ∈ wsX4_direction := by decide +kernel
theorem ndX4_direction : yX4_direction.cls ≠ "java/lang/invoke/MethodHandle" ∧ yX4_direction.cls ≠ "java/lang/invoke/VarHandle" ∧ (parseMethodDescriptor yX4_direction.desc).map (fun d => d.parameters.length) = some 0 := by decide +kernel
theorem oX4_direction {x0 : Nat} {h : hp_H} {r : Int32} (hF : fX4_direction x0 h = some r) : hp_o h x0 4 = true := by
  unfold fX4_direction at hF
  exact (hp_ift hF).1
set_option maxRecDepth 100000 in
set_option maxHeartbeats 4000000 in
theorem mX4_direction (l : Launch) (G : hp_G) {x0 : Nat} {h : hp_H} {r : Int32} (hF : fX4_direction x0 h = some r) : Met l yX4_direction wsX4_direction rmX4_direction (va_Pc [.ref x0] (hp_S G h)) (va_Qi (fun r' u => r' = r ∧ u = h) (hp_B G h) (hp_A h)) 0 0 (hp_A h) := by
  refine hp_met (cc := cX4_direction) (nL := 1) (ret := (some .int)) (by decide) rfl ?_
  intro p e s m below meth c X Y
  have hl := lv_entry ([.ref x0]) (n := 1) (Nat.le_of_ble_eq_true rfl)
  rw [lg_entry_eq]
  generalize (lg_sl ([.ref x0]) ++ List.replicate (1 - (lg_sl ([.ref x0])).length) Slot.unset).toArray = ls at hl ⊢
  have hl : lv_has ls 1 [(0, .ref x0)] := hl
  unfold fX4_direction at hF
  obtain ⟨ho, hF⟩ := hp_ift hF
  refine lv_aload_n X.1 X.2.1 dX4_direction_0 rfl (lv_at hl 0 rfl) ?_
  obtain ⟨v1, e2, hF⟩ := hp_b hF
  refine hp_getr X Y (C := RX4) (T := TX4) (N := 2) (ci := 4) (k := 0) rfl inX4_direction_X4 (by decide) lkX4_direction_f12 e2 dX4_direction_1 ?_
  obtain ⟨v4, e3, hF⟩ := hp_b hF
  refine hp_ci Y (hp_runV X Y (ci := 2) (As := []) (n := 0) (T := TX2) (N := 2) (mX2_isZero l G e3) rfl (oX2_isZero e3) gX4_direction_X2_isZero rfl rfl rfl ndX2_isZero ⟨Nat.le_of_ble_eq_true rfl, Nat.le_of_ble_eq_true rfl⟩ rfl hl.1 rfl (Nat.le_of_ble_eq_true rfl) dX4_direction_4 ⟨Nat.zero_le _, Nat.zero_le _⟩) (fun H locs Y => ?_)
  refine lv_if_eq (tgt := 12) X.1 X.2.1 dX4_direction_7 (by decide) (fun c5 => ?_) (fun c5 => ?_)
  · have hF := hp_ifp (c5) hF
    refine lv_aload_n X.1 X.2.1 dX4_direction_12 rfl (lv_at hl 0 rfl) ?_
    obtain ⟨v6, e7, hF⟩ := hp_b hF
    refine hp_geti X Y (C := RX4) (T := TX4) (N := 2) (ci := 4) (k := 1) rfl inX4_direction_X4 (by decide) lkX4_direction_f22 e7 dX4_direction_13 ?_
    refine lv_if_eq (tgt := 23) X.1 X.2.1 dX4_direction_16 (by decide) (fun c8 => ?_) (fun c8 => ?_)
    · have hF := hp_ifp (c8) hF
      refine lv_iconst (v := 1) X.1 X.2.1 dX4_direction_23 (by decide) ?_
      cases hF
      exact hp_ri X Y rfl rfl dX4_direction_24
    · have hF := hp_ifn (c8) hF
      refine lv_iconst (v := -1) X.1 X.2.1 dX4_direction_19 (by decide) ?_
      refine lv_goto (tgt := 24) X.1 X.2.1 dX4_direction_20 (by decide) ?_
      cases hF
      exact hp_ri X Y rfl rfl dX4_direction_24
  · have hF := hp_ifn (c5) hF
    refine lv_iconst (v := 0) X.1 X.2.1 dX4_direction_10 (by decide) ?_
    cases hF
    exact hp_ri X Y rfl rfl dX4_direction_11

/-! WholeNumbers$Whole.order -/
def rmX4_order : Room := { frames := 1, cells := 0, slots := 0, locals := 22 }
def fX4_order (x0 : Nat) (x1 : Nat) (h : hp_H) : Option Int32 :=
  if hp_o h x0 4 = true then
  (hp_gi h x0 4 1).bind fun v1 =>
  (hp_gi h x1 4 1).bind fun v3 =>
  if v1 = v3 then (
    (hp_gi h x0 4 1).bind fun v6 =>
    if v6 = 0 then (
      (hp_gr h x0 4 0).bind fun v9 =>
      (hp_gr h x1 4 0).bind fun v11 =>
      (fX2_order v9 v11 h).bind fun v14 =>
      some v14)
    else (
      (hp_gr h x1 4 0).bind fun v15 =>
      (hp_gr h x0 4 0).bind fun v17 =>
      (fX2_order v15 v17 h).bind fun v20 =>
      some v20))
  else (
    (hp_gi h x0 4 1).bind fun v21 =>
    if v21 = 0 then (
      some (1 : Int32))
    else (
      some (-1 : Int32)))
  else none
theorem inX4_order_X4 : ∀ w ∈ wsX40, w ∈ wsX4_order := by decide +kernel
theorem lkX4_order_f22 : Cond.fieldLink RX4 22 (TX4 1).1 (TX4 1).2.1 (TX4 1).2.2.1 ∈ wsX4_order := by decide +kernel
theorem lkX4_order_f12 : Cond.fieldLink RX4 12 (TX4 0).1 (TX4 0).2.1 (TX4 0).2.2.1 ∈ wsX4_order := by decide +kernel
theorem ndX4_order : yX4_order.cls ≠ "java/lang/invoke/MethodHandle" ∧ yX4_order.cls ≠ "java/lang/invoke/VarHandle" ∧ (parseMethodDescriptor yX4_order.desc).map (fun d => d.parameters.length) = some 1 := by decide +kernel
theorem oX4_order {x0 : Nat} {x1 : Nat} {h : hp_H} {r : Int32} (hF : fX4_order x0 x1 h = some r) : hp_o h x0 4 = true := by
  unfold fX4_order at hF
  exact (hp_ift hF).1
set_option maxRecDepth 100000 in
set_option maxHeartbeats 4000000 in
theorem mX4_order (l : Launch) (G : hp_G) {x0 : Nat} {x1 : Nat} {h : hp_H} {r : Int32} (hF : fX4_order x0 x1 h = some r) : Met l yX4_order wsX4_order rmX4_order (va_Pc [.ref x0, .ref x1] (hp_S G h)) (va_Qi (fun r' u => r' = r ∧ u = h) (hp_B G h) (hp_A h)) 0 0 (hp_A h) := by
  refine hp_met (cc := cX4_order) (nL := 2) (ret := (some .int)) (by decide) rfl ?_
  intro p e s m below meth c X Y
  have hl := lv_entry ([.ref x0, .ref x1]) (n := 2) (Nat.le_of_ble_eq_true rfl)
  rw [lg_entry_eq]
  generalize (lg_sl ([.ref x0, .ref x1]) ++ List.replicate (2 - (lg_sl ([.ref x0, .ref x1])).length) Slot.unset).toArray = ls at hl ⊢
  have hl : lv_has ls 2 [(0, .ref x0), (1, .ref x1)] := hl
  unfold fX4_order at hF
  obtain ⟨ho, hF⟩ := hp_ift hF
  refine lv_aload_n X.1 X.2.1 dX4_order_0 rfl (lv_at hl 0 rfl) ?_
  obtain ⟨v1, e2, hF⟩ := hp_b hF
  refine hp_geti X Y (C := RX4) (T := TX4) (N := 2) (ci := 4) (k := 1) rfl inX4_order_X4 (by decide) lkX4_order_f22 e2 dX4_order_1 ?_
  refine lv_aload_n X.1 X.2.1 dX4_order_4 rfl (lv_at hl 1 rfl) ?_
  obtain ⟨v3, e4, hF⟩ := hp_b hF
  refine hp_geti X Y (C := RX4) (T := TX4) (N := 2) (ci := 4) (k := 1) rfl inX4_order_X4 (by decide) lkX4_order_f22 e4 dX4_order_5 ?_
  refine lv_icmp_eq (tgt := 24) X.1 X.2.1 dX4_order_8 (by decide) (fun c5 => ?_) (fun c5 => ?_)
  · have hF := hp_ifp (c5) hF
    refine lv_aload_n X.1 X.2.1 dX4_order_24 rfl (lv_at hl 0 rfl) ?_
    obtain ⟨v6, e7, hF⟩ := hp_b hF
    refine hp_geti X Y (C := RX4) (T := TX4) (N := 2) (ci := 4) (k := 1) rfl inX4_order_X4 (by decide) lkX4_order_f22 e7 dX4_order_25 ?_
    refine lv_if_eq (tgt := 45) X.1 X.2.1 dX4_order_28 (by decide) (fun c8 => ?_) (fun c8 => ?_)
    · have hF := hp_ifp (c8) hF
      refine lv_aload_n X.1 X.2.1 dX4_order_45 rfl (lv_at hl 0 rfl) ?_
      obtain ⟨v9, e10, hF⟩ := hp_b hF
      refine hp_getr X Y (C := RX4) (T := TX4) (N := 2) (ci := 4) (k := 0) rfl inX4_order_X4 (by decide) lkX4_order_f12 e10 dX4_order_46 ?_
      refine lv_aload_n X.1 X.2.1 dX4_order_49 rfl (lv_at hl 1 rfl) ?_
      obtain ⟨v11, e12, hF⟩ := hp_b hF
      refine hp_getr X Y (C := RX4) (T := TX4) (N := 2) (ci := 4) (k := 0) rfl inX4_order_X4 (by decide) lkX4_order_f12 e12 dX4_order_50 ?_
      obtain ⟨v14, e13, hF⟩ := hp_b hF
      refine hp_ci Y (hp_runV X Y (ci := 2) (As := [.ref v11]) (n := 1) (T := TX2) (N := 2) (mX2_order l G e13) rfl (oX2_order e13) gX4_order_X2_order rfl rfl rfl ndX2_order ⟨Nat.le_of_ble_eq_true rfl, Nat.le_of_ble_eq_true rfl⟩ rfl hl.1 rfl (Nat.le_of_ble_eq_true rfl) dX4_order_53 ⟨Nat.zero_le _, Nat.zero_le _⟩) (fun H locs Y => ?_)
      cases hF
      exact hp_ri X Y rfl rfl dX4_order_56
    · have hF := hp_ifn (c8) hF
      refine lv_aload_n X.1 X.2.1 dX4_order_31 rfl (lv_at hl 1 rfl) ?_
      obtain ⟨v15, e16, hF⟩ := hp_b hF
      refine hp_getr X Y (C := RX4) (T := TX4) (N := 2) (ci := 4) (k := 0) rfl inX4_order_X4 (by decide) lkX4_order_f12 e16 dX4_order_32 ?_
      refine lv_aload_n X.1 X.2.1 dX4_order_35 rfl (lv_at hl 0 rfl) ?_
      obtain ⟨v17, e18, hF⟩ := hp_b hF
      refine hp_getr X Y (C := RX4) (T := TX4) (N := 2) (ci := 4) (k := 0) rfl inX4_order_X4 (by decide) lkX4_order_f12 e18 dX4_order_36 ?_
      obtain ⟨v20, e19, hF⟩ := hp_b hF
      refine hp_ci Y (hp_runV X Y (ci := 2) (As := [.ref v17]) (n := 1) (T := TX2) (N := 2) (mX2_order l G e19) rfl (oX2_order e19) gX4_order_X2_order rfl rfl rfl ndX2_order ⟨Nat.le_of_ble_eq_true rfl, Nat.le_of_ble_eq_true rfl⟩ rfl hl.1 rfl (Nat.le_of_ble_eq_true rfl) dX4_order_39 ⟨Nat.zero_le _, Nat.zero_le _⟩) (fun H locs Y => ?_)
      refine lv_goto (tgt := 56) X.1 X.2.1 dX4_order_42 (by decide) ?_
      cases hF
      exact hp_ri X Y rfl rfl dX4_order_56
  · have hF := hp_ifn (c5) hF
    refine lv_aload_n X.1 X.2.1 dX4_order_11 rfl (lv_at hl 0 rfl) ?_
    obtain ⟨v21, e22, hF⟩ := hp_b hF
    refine hp_geti X Y (C := RX4) (T := TX4) (N := 2) (ci := 4) (k := 1) rfl inX4_order_X4 (by decide) lkX4_order_f22 e22 dX4_order_12 ?_
    refine lv_if_eq (tgt := 22) X.1 X.2.1 dX4_order_15 (by decide) (fun c23 => ?_) (fun c23 => ?_)
    · have hF := hp_ifp (c23) hF
      refine lv_iconst (v := 1) X.1 X.2.1 dX4_order_22 (by decide) ?_
      cases hF
      exact hp_ri X Y rfl rfl dX4_order_23
    · have hF := hp_ifn (c23) hF
      refine lv_iconst (v := -1) X.1 X.2.1 dX4_order_18 (by decide) ?_
      refine lv_goto (tgt := 23) X.1 X.2.1 dX4_order_19 (by decide) ?_
      cases hF
      exact hp_ri X Y rfl rfl dX4_order_23

/-! WholeNumbers$Whole.isLong -/
def rmX4_isLong : Room := { frames := 3, cells := 0, slots := 0, locals := 61 }
def bX4_isLong_38  (x1 : Int32) (t0 : Int32) (h : hp_H) : Option Int32 :=
  if x1 < (64 : Int32) then (
    some (1 : Int32))
  else (
    if t0 = 0 then (
      some (0 : Int32))
    else (
      some (1 : Int32)))
def bX4_isLong_37  (x1 : Int32)  (h : hp_H) : Option Int32 :=
  bX4_isLong_38 x1 (0 : Int32) h
def fX4_isLong (x0 : Nat) (h : hp_H) : Option Int32 :=
  if hp_o h x0 4 = true then
  (hp_gr h x0 4 0).bind fun v1 =>
  (fX2_bitLength v1 h).bind fun v4 =>
  (hp_gi h x0 4 1).bind fun v5 =>
  if v5 = 0 then (
    bX4_isLong_37 v4 h)
  else (
    if v4 = (64 : Int32) then (
      (hp_gr h x0 4 0).bind fun v9 =>
      (fX2_anyBitBelow v9 (63 : Int32) h).bind fun v12 =>
      if v12 = 0 then (
        bX4_isLong_38 v4 (1 : Int32) h)
      else (
        bX4_isLong_37 v4 h))
    else (
      bX4_isLong_37 v4 h))
  else none
theorem inX4_isLong_X4 : ∀ w ∈ wsX40, w ∈ wsX4_isLong := by decide +kernel
theorem lkX4_isLong_f12 : Cond.fieldLink RX4 12 (TX4 0).1 (TX4 0).2.1 (TX4 0).2.2.1 ∈ wsX4_isLong := by decide +kernel
theorem lkX4_isLong_f22 : Cond.fieldLink RX4 22 (TX4 1).1 (TX4 1).2.1 (TX4 1).2.2.1 ∈ wsX4_isLong := by decide +kernel
theorem ndX4_isLong : yX4_isLong.cls ≠ "java/lang/invoke/MethodHandle" ∧ yX4_isLong.cls ≠ "java/lang/invoke/VarHandle" ∧ (parseMethodDescriptor yX4_isLong.desc).map (fun d => d.parameters.length) = some 0 := by decide +kernel
set_option maxRecDepth 100000 in
set_option maxHeartbeats 4000000 in
theorem wX4_isLong_38 {p : Program} {l : Launch} {e : Env} {s : State} {m : MethodId} {args : Array Value} {below : List Frame} {meth : Method} {c : Code} {G : hp_G} {h0 : hp_H} {r : Int32} (X : hp_X p s m args meth c cX4_isLong 3 RX4 wsX4_isLong (some .boolean) G)  {x1 : Int32}   {t0 : Int32} {H : Heap} {locs : List Loc} {ls : Array Slot} (Y : hp_Y G h0 h0 s H locs) (hl : lv_has ls 3 [(1, .int x1)]) (hF : bX4_isLong_38 x1 t0 h0 = some r) : W p l e rmX4_isLong s m args below meth c H locs 0 0 (MQ below (va_Qi (fun r' u => r' = r ∧ u = h0) (hp_B G h0) (hp_A h0)) args s 0 0 (hp_A h0)) (F0 m 38 ls [.int t0]) := by
  unfold bX4_isLong_38 at hF
  refine lv_istore_n (lv' := [(2, .int t0), (1, .int x1)]) X.1 X.2.1 dX4_isLong_38 rfl hl (by decide) rfl (fun ls hl => ?_)
  refine lv_iload_n X.1 X.2.1 dX4_isLong_39 rfl (lv_at hl 1 rfl) ?_
  refine lv_bipush (v := 64) X.1 X.2.1 dX4_isLong_40 (by decide) ?_
  refine lv_icmp_lt (tgt := 49) X.1 X.2.1 dX4_isLong_42 (by decide) (fun c1 => ?_) (fun c1 => ?_)
  · have hF := hp_ifp (c1) hF
    refine lv_iconst (v := 1) X.1 X.2.1 dX4_isLong_49 (by decide) ?_
    refine lv_goto (tgt := 54) X.1 X.2.1 dX4_isLong_50 (by decide) ?_
    cases hF
    exact hp_ri X Y rfl rfl dX4_isLong_54
  · have hF := hp_ifn (c1) hF
    refine lv_iload_n X.1 X.2.1 dX4_isLong_45 rfl (lv_at hl 0 rfl) ?_
    refine lv_if_eq (tgt := 53) X.1 X.2.1 dX4_isLong_46 (by decide) (fun c2 => ?_) (fun c2 => ?_)
    · have hF := hp_ifp (c2) hF
      refine lv_iconst (v := 0) X.1 X.2.1 dX4_isLong_53 (by decide) ?_
      cases hF
      exact hp_ri X Y rfl rfl dX4_isLong_54
    · have hF := hp_ifn (c2) hF
      refine lv_iconst (v := 1) X.1 X.2.1 dX4_isLong_49 (by decide) ?_
      refine lv_goto (tgt := 54) X.1 X.2.1 dX4_isLong_50 (by decide) ?_
      cases hF
      exact hp_ri X Y rfl rfl dX4_isLong_54
set_option maxRecDepth 100000 in
set_option maxHeartbeats 4000000 in
theorem wX4_isLong_37 {p : Program} {l : Launch} {e : Env} {s : State} {m : MethodId} {args : Array Value} {below : List Frame} {meth : Method} {c : Code} {G : hp_G} {h0 : hp_H} {r : Int32} (X : hp_X p s m args meth c cX4_isLong 3 RX4 wsX4_isLong (some .boolean) G)  {x1 : Int32}    {H : Heap} {locs : List Loc} {ls : Array Slot} (Y : hp_Y G h0 h0 s H locs) (hl : lv_has ls 3 [(1, .int x1)]) (hF : bX4_isLong_37 x1 h0 = some r) : W p l e rmX4_isLong s m args below meth c H locs 0 0 (MQ below (va_Qi (fun r' u => r' = r ∧ u = h0) (hp_B G h0) (hp_A h0)) args s 0 0 (hp_A h0)) (F0 m 37 ls []) := by
  unfold bX4_isLong_37 at hF
  refine lv_iconst (v := 0) X.1 X.2.1 dX4_isLong_37 (by decide) ?_
  exact wX4_isLong_38 X  Y (lv_sub hl [0] rfl) hF
theorem oX4_isLong {x0 : Nat} {h : hp_H} {r : Int32} (hF : fX4_isLong x0 h = some r) : hp_o h x0 4 = true := by
  unfold fX4_isLong at hF
  exact (hp_ift hF).1
set_option maxRecDepth 100000 in
set_option maxHeartbeats 4000000 in
theorem mX4_isLong (l : Launch) (G : hp_G) {x0 : Nat} {h : hp_H} {r : Int32} (hF : fX4_isLong x0 h = some r) : Met l yX4_isLong wsX4_isLong rmX4_isLong (va_Pc [.ref x0] (hp_S G h)) (va_Qi (fun r' u => r' = r ∧ u = h) (hp_B G h) (hp_A h)) 0 0 (hp_A h) := by
  refine hp_met (cc := cX4_isLong) (nL := 3) (ret := (some .boolean)) (by decide) rfl ?_
  intro p e s m below meth c X Y
  have hl := lv_entry ([.ref x0]) (n := 3) (Nat.le_of_ble_eq_true rfl)
  rw [lg_entry_eq]
  generalize (lg_sl ([.ref x0]) ++ List.replicate (3 - (lg_sl ([.ref x0])).length) Slot.unset).toArray = ls at hl ⊢
  have hl : lv_has ls 3 [(0, .ref x0)] := hl
  unfold fX4_isLong at hF
  obtain ⟨ho, hF⟩ := hp_ift hF
  refine lv_aload_n X.1 X.2.1 dX4_isLong_0 rfl (lv_at hl 0 rfl) ?_
  obtain ⟨v1, e2, hF⟩ := hp_b hF
  refine hp_getr X Y (C := RX4) (T := TX4) (N := 2) (ci := 4) (k := 0) rfl inX4_isLong_X4 (by decide) lkX4_isLong_f12 e2 dX4_isLong_1 ?_
  obtain ⟨v4, e3, hF⟩ := hp_b hF
  refine hp_ci Y (hp_runV X Y (ci := 2) (As := []) (n := 0) (T := TX2) (N := 2) (mX2_bitLength l G e3) rfl (oX2_bitLength e3) gX4_isLong_X2_bitLength rfl rfl rfl ndX2_bitLength ⟨Nat.le_of_ble_eq_true rfl, Nat.le_of_ble_eq_true rfl⟩ rfl hl.1 rfl (Nat.le_of_ble_eq_true rfl) dX4_isLong_4 ⟨Nat.zero_le _, Nat.zero_le _⟩) (fun H locs Y => ?_)
  refine lv_istore_n (lv' := [(1, .int v4), (0, .ref x0)]) X.1 X.2.1 dX4_isLong_7 rfl hl (by decide) rfl (fun ls hl => ?_)
  refine lv_aload_n X.1 X.2.1 dX4_isLong_8 rfl (lv_at hl 1 rfl) ?_
  obtain ⟨v5, e6, hF⟩ := hp_b hF
  refine hp_geti X Y (C := RX4) (T := TX4) (N := 2) (ci := 4) (k := 1) rfl inX4_isLong_X4 (by decide) lkX4_isLong_f22 e6 dX4_isLong_9 ?_
  refine lv_if_eq (tgt := 37) X.1 X.2.1 dX4_isLong_12 (by decide) (fun c7 => ?_) (fun c7 => ?_)
  · have hF := hp_ifp (c7) hF
    exact wX4_isLong_37 X  Y (lv_sub hl [0] rfl) hF
  · have hF := hp_ifn (c7) hF
    refine lv_iload_n X.1 X.2.1 dX4_isLong_15 rfl (lv_at hl 0 rfl) ?_
    refine lv_bipush (v := 64) X.1 X.2.1 dX4_isLong_16 (by decide) ?_
    refine lv_icmp_ne (tgt := 37) X.1 X.2.1 dX4_isLong_18 (by decide) (fun c8 => ?_) (fun c8 => ?_)
    · have hF := hp_ifn (c8) hF
      exact wX4_isLong_37 X  Y (lv_sub hl [0] rfl) hF
    · have hF := hp_ifp (c8) hF
      refine lv_aload_n X.1 X.2.1 dX4_isLong_21 rfl (lv_at hl 1 rfl) ?_
      obtain ⟨v9, e10, hF⟩ := hp_b hF
      refine hp_getr X Y (C := RX4) (T := TX4) (N := 2) (ci := 4) (k := 0) rfl inX4_isLong_X4 (by decide) lkX4_isLong_f12 e10 dX4_isLong_22 ?_
      refine lv_bipush (v := 63) X.1 X.2.1 dX4_isLong_25 (by decide) ?_
      obtain ⟨v12, e11, hF⟩ := hp_b hF
      refine hp_ci Y (hp_runV X Y (ci := 2) (As := [.int (63 : Int32)]) (n := 1) (T := TX2) (N := 2) (mX2_anyBitBelow l G e11) rfl (oX2_anyBitBelow e11) gX4_isLong_X2_anyBitBelow rfl rfl rfl ndX2_anyBitBelow ⟨Nat.le_of_ble_eq_true rfl, Nat.le_of_ble_eq_true rfl⟩ rfl hl.1 rfl (Nat.le_of_ble_eq_true rfl) dX4_isLong_27 ⟨Nat.zero_le _, Nat.zero_le _⟩) (fun H locs Y => ?_)
      refine lv_if_ne (tgt := 37) X.1 X.2.1 dX4_isLong_30 (by decide) (fun c13 => ?_) (fun c13 => ?_)
      · have hF := hp_ifn (c13) hF
        exact wX4_isLong_37 X  Y (lv_sub hl [0] rfl) hF
      · have hF := hp_ifp (c13) hF
        refine lv_iconst (v := 1) X.1 X.2.1 dX4_isLong_33 (by decide) ?_
        refine lv_goto (tgt := 38) X.1 X.2.1 dX4_isLong_34 (by decide) ?_
        exact wX4_isLong_38 X  Y (lv_sub hl [0] rfl) hF

/-! WholeNumbers$Whole.asLong -/
def rmX4_asLong : Room := { frames := 2, cells := 0, slots := 0, locals := 41 }
def fX4_asLong (x0 : Nat) (h : hp_H) : Option Int64 :=
  if hp_o h x0 4 = true then
  (hp_gi h x0 4 1).bind fun v1 =>
  if v1 = 0 then (
    (hp_gr h x0 4 0).bind fun v4 =>
    (fX2_lowestLong v4 h).bind fun v7 =>
    some v7)
  else (
    (hp_gr h x0 4 0).bind fun v8 =>
    (fX2_lowestLong v8 h).bind fun v11 =>
    some (-v11))
  else none
theorem inX4_asLong_X4 : ∀ w ∈ wsX40, w ∈ wsX4_asLong := by decide +kernel
theorem lkX4_asLong_f22 : Cond.fieldLink RX4 22 (TX4 1).1 (TX4 1).2.1 (TX4 1).2.2.1 ∈ wsX4_asLong := by decide +kernel
theorem lkX4_asLong_f12 : Cond.fieldLink RX4 12 (TX4 0).1 (TX4 0).2.1 (TX4 0).2.2.1 ∈ wsX4_asLong := by decide +kernel
theorem ndX4_asLong : yX4_asLong.cls ≠ "java/lang/invoke/MethodHandle" ∧ yX4_asLong.cls ≠ "java/lang/invoke/VarHandle" ∧ (parseMethodDescriptor yX4_asLong.desc).map (fun d => d.parameters.length) = some 0 := by decide +kernel
theorem oX4_asLong {x0 : Nat} {h : hp_H} {r : Int64} (hF : fX4_asLong x0 h = some r) : hp_o h x0 4 = true := by
  unfold fX4_asLong at hF
  exact (hp_ift hF).1
set_option maxRecDepth 100000 in
set_option maxHeartbeats 4000000 in
theorem mX4_asLong (l : Launch) (G : hp_G) {x0 : Nat} {h : hp_H} {r : Int64} (hF : fX4_asLong x0 h = some r) : Met l yX4_asLong wsX4_asLong rmX4_asLong (va_Pc [.ref x0] (hp_S G h)) (va_Ql (fun r' u => r' = r ∧ u = h) (hp_B G h) (hp_A h)) 0 0 (hp_A h) := by
  refine hp_met (cc := cX4_asLong) (nL := 1) (ret := (some .long)) (by decide) rfl ?_
  intro p e s m below meth c X Y
  have hl := lv_entry ([.ref x0]) (n := 1) (Nat.le_of_ble_eq_true rfl)
  rw [lg_entry_eq]
  generalize (lg_sl ([.ref x0]) ++ List.replicate (1 - (lg_sl ([.ref x0])).length) Slot.unset).toArray = ls at hl ⊢
  have hl : lv_has ls 1 [(0, .ref x0)] := hl
  unfold fX4_asLong at hF
  obtain ⟨ho, hF⟩ := hp_ift hF
  refine lv_aload_n X.1 X.2.1 dX4_asLong_0 rfl (lv_at hl 0 rfl) ?_
  obtain ⟨v1, e2, hF⟩ := hp_b hF
  refine hp_geti X Y (C := RX4) (T := TX4) (N := 2) (ci := 4) (k := 1) rfl inX4_asLong_X4 (by decide) lkX4_asLong_f22 e2 dX4_asLong_1 ?_
  refine lv_if_eq (tgt := 18) X.1 X.2.1 dX4_asLong_4 (by decide) (fun c3 => ?_) (fun c3 => ?_)
  · have hF := hp_ifp (c3) hF
    refine lv_aload_n X.1 X.2.1 dX4_asLong_18 rfl (lv_at hl 0 rfl) ?_
    obtain ⟨v4, e5, hF⟩ := hp_b hF
    refine hp_getr X Y (C := RX4) (T := TX4) (N := 2) (ci := 4) (k := 0) rfl inX4_asLong_X4 (by decide) lkX4_asLong_f12 e5 dX4_asLong_19 ?_
    obtain ⟨v7, e6, hF⟩ := hp_b hF
    refine hp_cj Y (hp_runV X Y (ci := 2) (As := []) (n := 0) (T := TX2) (N := 2) (mX2_lowestLong l G e6) rfl (oX2_lowestLong e6) gX4_asLong_X2_lowestLong rfl rfl rfl ndX2_lowestLong ⟨Nat.le_of_ble_eq_true rfl, Nat.le_of_ble_eq_true rfl⟩ rfl hl.1 rfl (Nat.le_of_ble_eq_true rfl) dX4_asLong_22 ⟨Nat.zero_le _, Nat.zero_le _⟩) (fun H locs Y => ?_)
    cases hF
    exact hp_rj X Y rfl dX4_asLong_25
  · have hF := hp_ifn (c3) hF
    refine lv_aload_n X.1 X.2.1 dX4_asLong_7 rfl (lv_at hl 0 rfl) ?_
    obtain ⟨v8, e9, hF⟩ := hp_b hF
    refine hp_getr X Y (C := RX4) (T := TX4) (N := 2) (ci := 4) (k := 0) rfl inX4_asLong_X4 (by decide) lkX4_asLong_f12 e9 dX4_asLong_8 ?_
    obtain ⟨v11, e10, hF⟩ := hp_b hF
    refine hp_cj Y (hp_runV X Y (ci := 2) (As := []) (n := 0) (T := TX2) (N := 2) (mX2_lowestLong l G e10) rfl (oX2_lowestLong e10) gX4_asLong_X2_lowestLong rfl rfl rfl ndX2_lowestLong ⟨Nat.le_of_ble_eq_true rfl, Nat.le_of_ble_eq_true rfl⟩ rfl hl.1 rfl (Nat.le_of_ble_eq_true rfl) dX4_asLong_11 ⟨Nat.zero_le _, Nat.zero_le _⟩) (fun H locs Y => ?_)
    refine lv_lneg X.1 X.2.1 dX4_asLong_14 ?_
    refine lv_goto (tgt := 25) X.1 X.2.1 dX4_asLong_15 (by decide) ?_
    cases hF
    exact hp_rj X Y rfl dX4_asLong_25
