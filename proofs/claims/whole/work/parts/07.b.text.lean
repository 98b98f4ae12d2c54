/-! WholeNumbers$Text.append -/
def rmX3_append : Room := { frames := 0, cells := 0, slots := 0, locals := 0 }
def fX3_append (x0 : Nat) (x1 : Int32) (h : hp_H) : Option hp_H :=
  if hp_o h x0 3 = true then
  (hp_gi h x0 3 1).bind fun v1 =>
  if (4097 : Int32) ≤ v1 then (
    some h)
  else (
    (hp_gr h x0 3 0).bind fun v4 =>
    (hp_gi h x0 3 1).bind fun v6 =>
    (hp_si h 1 v4 v6 (vp_nar .char x1)).bind fun h8 =>
    (hp_gi h8 x0 3 1).bind fun v10 =>
    (hp_pv h8 x0 3 1 (.int (v10 + (1 : Int32)))).bind fun h12 =>
    some h12)
  else none
theorem inX3_append_X3 : ∀ w ∈ wsX30, w ∈ wsX3_append := by decide +kernel
theorem lkX3_append_f15 : Cond.fieldLink RX3 15 (TX3 1).1 (TX3 1).2.1 (TX3 1).2.2.1 ∈ wsX3_append := by decide +kernel
theorem lkX3_append_f9 : Cond.fieldLink RX3 9 (TX3 0).1 (TX3 0).2.1 (TX3 0).2.2.1 ∈ wsX3_append := by decide +kernel
theorem ndX3_append : yX3_append.cls ≠ "java/lang/invoke/MethodHandle" ∧ yX3_append.cls ≠ "java/lang/invoke/VarHandle" ∧ (parseMethodDescriptor yX3_append.desc).map (fun d => d.parameters.length) = some 1 := by decide +kernel
theorem oX3_append {x0 : Nat} {x1 : Int32} {h h' : hp_H}  (hF : fX3_append x0 x1 h = some h') : hp_o h x0 3 = true := by
  unfold fX3_append at hF
  exact (hp_ift hF).1
set_option maxRecDepth 100000 in
set_option maxHeartbeats 4000000 in
theorem mX3_append (l : Launch) (G : hp_G) {x0 : Nat} {x1 : Int32} {h h' : hp_H}  (hF : fX3_append x0 x1 h = some h') : Met l yX3_append wsX3_append rmX3_append (va_Pc [.ref x0, .int x1] (hp_S G h)) (va_Qv (fun u => u = h') (hp_B G h) (hp_A h)) 0 0 (hp_A h) := by
  refine hp_met (cc := cX3_append) (nL := 2) (ret := none) (by decide) rfl ?_
  intro p e s m below meth c X Y
  have hl := lv_entry ([.ref x0, .int x1]) (n := 2) (Nat.le_of_ble_eq_true rfl)
  rw [lg_entry_eq]
  generalize (lg_sl ([.ref x0, .int x1]) ++ List.replicate (2 - (lg_sl ([.ref x0, .int x1])).length) Slot.unset).toArray = ls at hl ⊢
  have hl : lv_has ls 2 [(0, .ref x0), (1, .int x1)] := hl
  unfold fX3_append at hF
  obtain ⟨ho, hF⟩ := hp_ift hF
  refine lv_aload_n X.1 X.2.1 dX3_append_0 rfl (lv_at hl 0 rfl) ?_
  obtain ⟨v1, e2, hF⟩ := hp_b hF
  refine hp_geti X Y (C := RX3) (T := TX3) (N := 2) (ci := 3) (k := 1) rfl inX3_append_X3 (by decide) lkX3_append_f15 e2 dX3_append_1 ?_
  refine lv_sipush (v := 4097) X.1 X.2.1 dX3_append_4 (by decide) ?_
  refine lv_icmp_ge (tgt := 30) X.1 X.2.1 dX3_append_7 (by decide) (fun c3 => ?_) (fun c3 => ?_)
  · have hF := hp_ifp (c3) hF
    cases hF
    exact hp_rv X Y rfl dX3_append_30
  · have hF := hp_ifn (c3) hF
    refine lv_aload_n X.1 X.2.1 dX3_append_10 rfl (lv_at hl 0 rfl) ?_
    obtain ⟨v4, e5, hF⟩ := hp_b hF
    refine hp_getr X Y (C := RX3) (T := TX3) (N := 2) (ci := 3) (k := 0) rfl inX3_append_X3 (by decide) lkX3_append_f9 e5 dX3_append_11 ?_
    refine lv_aload_n X.1 X.2.1 dX3_append_14 rfl (lv_at hl 0 rfl) ?_
    obtain ⟨v6, e7, hF⟩ := hp_b hF
    refine hp_geti X Y (C := RX3) (T := TX3) (N := 2) (ci := 3) (k := 1) rfl inX3_append_X3 (by decide) lkX3_append_f15 e7 dX3_append_15 ?_
    refine lv_iload_n X.1 X.2.1 dX3_append_18 rfl (lv_at hl 1 rfl) ?_
    obtain ⟨h8, e9, hF⟩ := hp_b hF
    refine hp_cast X Y e9 dX3_append_19 (fun H locs Y => ?_)
    refine lv_aload_n X.1 X.2.1 dX3_append_20 rfl (lv_at hl 0 rfl) ?_
    refine lv_dup X.1 X.2.1 dX3_append_21 rfl ?_
    obtain ⟨v10, e11, hF⟩ := hp_b hF
    refine hp_geti X Y (C := RX3) (T := TX3) (N := 2) (ci := 3) (k := 1) rfl inX3_append_X3 (by decide) lkX3_append_f15 e11 dX3_append_22 ?_
    refine lv_iconst (v := 1) X.1 X.2.1 dX3_append_25 (by decide) ?_
    refine lv_iadd X.1 X.2.1 dX3_append_26 ?_
    obtain ⟨h12, e13, hF⟩ := hp_b hF
    refine hp_put X Y (C := RX3) (T := TX3) (N := 2) (ci := 3) (k := 1) (ty0 := tyX3) rfl inX3_append_X3 tyX3_ok nmX3 (by decide) lkX3_append_f15 rfl rfl rfl e13 dX3_append_27 (fun H locs Y => ?_)
    cases hF
    exact hp_rv X Y rfl dX3_append_30

/-! WholeNumbers$Text.digitsInLimb -/
def rmX3_digitsInLimb : Room := { frames := 0, cells := 0, slots := 0, locals := 0 }
def bX3_digitsInLimb_8  (x0 : Int32) : Nat → Int32 → Int64 → Int32 → Option Int32
  | 0, _, _, _ => none
  | n + 1, x1, x2, x4 =>
  if (30 : Int32) ≤ x4 then (
    some x1)
  else (
    if (1073741823 : Int64) < x2 then (
      some x1)
    else (
      (some (x2 * (Int32.toInt64 x0))).bind fun v3 =>
      (some (x1 + (1 : Int32))).bind fun v5 =>
      (some (x4 + (1 : Int32))).bind fun v7 =>
      bX3_digitsInLimb_8 x0 n v5 v3 v7))
def fX3_digitsInLimb (x0 : Int32) : Option Int32 :=
  (some (Int32.toInt64 x0)).bind fun v1 =>
  bX3_digitsInLimb_8 x0 hp_n (0 : Int32) v1 (0 : Int32)
theorem lkX3_digitsInLimb_c96 : Cond.constantLong RX3 96 (1073741823) ∈ wsX3_digitsInLimb := by decide +kernel
theorem ndX3_digitsInLimb : yX3_digitsInLimb.cls ≠ "java/lang/invoke/MethodHandle" ∧ yX3_digitsInLimb.cls ≠ "java/lang/invoke/VarHandle" ∧ (parseMethodDescriptor yX3_digitsInLimb.desc).map (fun d => d.parameters.length) = some 1 := by decide +kernel
set_option maxRecDepth 100000 in
set_option maxHeartbeats 4000000 in
theorem wX3_digitsInLimb_8 {p : Program} {l : Launch} {e : Env} {s : State} {m : MethodId} {args : Array Value} {below : List Frame} {meth : Method} {c : Code} {G : hp_G} {h0 : hp_H} {r : Int32} (X : hp_X p s m args meth c cX3_digitsInLimb 5 RX3 wsX3_digitsInLimb (some .int) G)  {x0 : Int32}   : ∀ (n : Nat) {x1 : Int32} {x2 : Int64} {x4 : Int32} {H : Heap} {locs : List Loc} {ls : Array Slot} (Y : hp_Y G h0 h0 s H locs) (hl : lv_has ls 5 [(0, .int x0), (1, .int x1), (2, .long x2), (4, .int x4)]) (hF : bX3_digitsInLimb_8 x0 n x1 x2 x4 = some r), W p l e rmX3_digitsInLimb s m args below meth c H locs 0 0 (MQ below (va_Qi (fun r' u => r' = r ∧ u = h0) (hp_B G h0) (hp_A h0)) args s 0 0 (hp_A h0)) (F0 m 8 ls []) := by
  intro n
  induction n with
  | zero =>
    intro x1 x2 x4 H locs ls Y hl hF
    exact absurd (show none = some _ from hF) (by simp)
  | succ n ih =>
    intro x1 x2 x4 H locs ls Y hl hF
    rw [bX3_digitsInLimb_8] at hF
    refine lv_iload X.1 X.2.1 dX3_digitsInLimb_8 (lv_at hl 3 rfl) ?_
    refine lv_bipush (v := 30) X.1 X.2.1 dX3_digitsInLimb_10 (by decide) ?_
    refine lv_icmp_ge (tgt := 37) X.1 X.2.1 dX3_digitsInLimb_12 (by decide) (fun c1 => ?_) (fun c1 => ?_)
    · have hF := hp_ifp (c1) hF
      refine lv_iload_n X.1 X.2.1 dX3_digitsInLimb_37 rfl (lv_at hl 1 rfl) ?_
      cases hF
      exact hp_ri X Y rfl rfl dX3_digitsInLimb_38
    · have hF := hp_ifn (c1) hF
      refine lv_lload_n X.1 X.2.1 dX3_digitsInLimb_15 rfl (lv_at hl 2 rfl) ?_
      refine lv_ldc2 (v := 1073741823) X.1 X.2.1 X.2.2.2.1 (X.2.2.2.2.1 _ lkX3_digitsInLimb_c96) dX3_digitsInLimb_16 ?_
      refine W.lcmp X.1 X.2.1 dX3_digitsInLimb_19 ?_
      refine lv_if_gt (tgt := 37) X.1 X.2.1 dX3_digitsInLimb_20 (by decide) (fun c2 => ?_) (fun c2 => ?_)
      · have hF := hp_ifp ((lg_cmp_gt x2 (1073741823 : Int64)).mp c2) hF
        refine lv_iload_n X.1 X.2.1 dX3_digitsInLimb_37 rfl (lv_at hl 1 rfl) ?_
        cases hF
        exact hp_ri X Y rfl rfl dX3_digitsInLimb_38
      · have hF := hp_ifn (fun z => c2 ((lg_cmp_gt x2 (1073741823 : Int64)).mpr z)) hF
        refine lv_lload_n X.1 X.2.1 dX3_digitsInLimb_23 rfl (lv_at hl 2 rfl) ?_
        refine lv_iload_n X.1 X.2.1 dX3_digitsInLimb_24 rfl (lv_at hl 0 rfl) ?_
        refine lv_i2l (v := Int32.toInt64 x0) X.1 X.2.1 dX3_digitsInLimb_25 rfl ?_
        refine lv_lmul X.1 X.2.1 dX3_digitsInLimb_26 ?_
        obtain ⟨v3, e4, hF⟩ := hp_b hF
        refine hp_tj (Option.some.inj e4) ?_
        refine lv_lstore_n (lv' := [(2, .long v3), (0, .int x0), (1, .int x1), (4, .int x4)]) X.1 X.2.1 dX3_digitsInLimb_27 rfl hl (by decide) rfl (fun ls hl => ?_)
        obtain ⟨v5, e6, hF⟩ := hp_b hF
        refine lv_iinc (v := v5) (lv' := [(1, .int v5), (2, .long v3), (0, .int x0), (4, .int x4)]) X.1 X.2.1 dX3_digitsInLimb_28 hl (k := 2) rfl (Option.some.inj e6) (by decide) rfl (fun ls hl => ?_)
        obtain ⟨v7, e8, hF⟩ := hp_b hF
        refine lv_iinc (v := v7) (lv' := [(4, .int v7), (1, .int v5), (2, .long v3), (0, .int x0)]) X.1 X.2.1 dX3_digitsInLimb_31 hl (k := 3) rfl (Option.some.inj e8) (by decide) rfl (fun ls hl => ?_)
        refine lv_goto (tgt := 8) X.1 X.2.1 dX3_digitsInLimb_34 (by decide) ?_
        exact ih Y (lv_sub hl [3, 1, 2, 0] rfl) hF
set_option maxRecDepth 100000 in
set_option maxHeartbeats 4000000 in
theorem mX3_digitsInLimb (l : Launch) (G : hp_G) {x0 : Int32} {h : hp_H} {r : Int32} (hF : fX3_digitsInLimb x0 = some r) : Met l yX3_digitsInLimb wsX3_digitsInLimb rmX3_digitsInLimb (va_Pc [.int x0] (hp_S G h)) (va_Qi (fun r' u => r' = r ∧ u = h) (hp_B G h) (hp_A h)) 0 0 (hp_A h) := by
  refine hp_met (cc := cX3_digitsInLimb) (nL := 5) (ret := (some .int)) (by decide) rfl ?_
  intro p e s m below meth c X Y
  have hl := lv_entry ([.int x0]) (n := 5) (Nat.le_of_ble_eq_true rfl)
  rw [lg_entry_eq]
  generalize (lg_sl ([.int x0]) ++ List.replicate (5 - (lg_sl ([.int x0])).length) Slot.unset).toArray = ls at hl ⊢
  have hl : lv_has ls 5 [(0, .int x0)] := hl
  unfold fX3_digitsInLimb at hF
  refine lv_iconst (v := 0) X.1 X.2.1 dX3_digitsInLimb_0 (by decide) ?_
  refine lv_istore_n (lv' := [(1, .int (0 : Int32)), (0, .int x0)]) X.1 X.2.1 dX3_digitsInLimb_1 rfl hl (by decide) rfl (fun ls hl => ?_)
  refine lv_iload_n X.1 X.2.1 dX3_digitsInLimb_2 rfl (lv_at hl 1 rfl) ?_
  refine lv_i2l (v := Int32.toInt64 x0) X.1 X.2.1 dX3_digitsInLimb_3 rfl ?_
  obtain ⟨v1, e2, hF⟩ := hp_b hF
  refine hp_tj (Option.some.inj e2) ?_
  refine lv_lstore_n (lv' := [(2, .long v1), (1, .int (0 : Int32)), (0, .int x0)]) X.1 X.2.1 dX3_digitsInLimb_4 rfl hl (by decide) rfl (fun ls hl => ?_)
  refine lv_iconst (v := 0) X.1 X.2.1 dX3_digitsInLimb_5 (by decide) ?_
  refine lv_istore (lv' := [(4, .int (0 : Int32)), (2, .long v1), (1, .int (0 : Int32)), (0, .int x0)]) X.1 X.2.1 dX3_digitsInLimb_6 hl (by decide) rfl (fun ls hl => ?_)
  exact wX3_digitsInLimb_8 X  hp_n Y (lv_sub hl [3, 2, 1, 0] rfl) hF

/-! WholeNumbers$Text.powerOf -/
def rmX3_powerOf : Room := { frames := 0, cells := 0, slots := 0, locals := 0 }
def bX3_powerOf_4  (x0 : Int32) (x1 : Int32) : Nat → Int32 → Int32 → Option Int32
  | 0, _, _ => none
  | n + 1, x2, x3 =>
  if x1 ≤ x3 then (
    some x2)
  else (
    (some (x2 * x0)).bind fun v2 =>
    (some (x3 + (1 : Int32))).bind fun v4 =>
    bX3_powerOf_4 x0 x1 n v2 v4)
def fX3_powerOf (x0 : Int32) (x1 : Int32) : Option Int32 :=
  bX3_powerOf_4 x0 x1 hp_n (1 : Int32) (0 : Int32)
theorem ndX3_powerOf : yX3_powerOf.cls ≠ "java/lang/invoke/MethodHandle" ∧ yX3_powerOf.cls ≠ "java/lang/invoke/VarHandle" ∧ (parseMethodDescriptor yX3_powerOf.desc).map (fun d => d.parameters.length) = some 2 := by decide +kernel
set_option maxRecDepth 100000 in
set_option maxHeartbeats 4000000 in
theorem wX3_powerOf_4 {p : Program} {l : Launch} {e : Env} {s : State} {m : MethodId} {args : Array Value} {below : List Frame} {meth : Method} {c : Code} {G : hp_G} {h0 : hp_H} {r : Int32} (X : hp_X p s m args meth c cX3_powerOf 4 RX3 wsX3_powerOf (some .int) G)  {x0 : Int32} {x1 : Int32}   : ∀ (n : Nat) {x2 : Int32} {x3 : Int32} {H : Heap} {locs : List Loc} {ls : Array Slot} (Y : hp_Y G h0 h0 s H locs) (hl : lv_has ls 4 [(0, .int x0), (1, .int x1), (2, .int x2), (3, .int x3)]) (hF : bX3_powerOf_4 x0 x1 n x2 x3 = some r), W p l e rmX3_powerOf s m args below meth c H locs 0 0 (MQ below (va_Qi (fun r' u => r' = r ∧ u = h0) (hp_B G h0) (hp_A h0)) args s 0 0 (hp_A h0)) (F0 m 4 ls []) := by
  intro n
  induction n with
  | zero =>
    intro x2 x3 H locs ls Y hl hF
    exact absurd (show none = some _ from hF) (by simp)
  | succ n ih =>
    intro x2 x3 H locs ls Y hl hF
    rw [bX3_powerOf_4] at hF
    refine lv_iload_n X.1 X.2.1 dX3_powerOf_4 rfl (lv_at hl 3 rfl) ?_
    refine lv_iload_n X.1 X.2.1 dX3_powerOf_5 rfl (lv_at hl 1 rfl) ?_
    refine lv_icmp_ge (tgt := 19) X.1 X.2.1 dX3_powerOf_6 (by decide) (fun c1 => ?_) (fun c1 => ?_)
    · have hF := hp_ifp (c1) hF
      refine lv_iload_n X.1 X.2.1 dX3_powerOf_19 rfl (lv_at hl 2 rfl) ?_
      cases hF
      exact hp_ri X Y rfl rfl dX3_powerOf_20
    · have hF := hp_ifn (c1) hF
      refine lv_iload_n X.1 X.2.1 dX3_powerOf_9 rfl (lv_at hl 2 rfl) ?_
      refine lv_iload_n X.1 X.2.1 dX3_powerOf_10 rfl (lv_at hl 0 rfl) ?_
      refine lv_imul X.1 X.2.1 dX3_powerOf_11 ?_
      obtain ⟨v2, e3, hF⟩ := hp_b hF
      refine hp_ti (Option.some.inj e3) ?_
      refine lv_istore_n (lv' := [(2, .int v2), (0, .int x0), (1, .int x1), (3, .int x3)]) X.1 X.2.1 dX3_powerOf_12 rfl hl (by decide) rfl (fun ls hl => ?_)
      obtain ⟨v4, e5, hF⟩ := hp_b hF
      refine lv_iinc (v := v4) (lv' := [(3, .int v4), (2, .int v2), (0, .int x0), (1, .int x1)]) X.1 X.2.1 dX3_powerOf_13 hl (k := 3) rfl (Option.some.inj e5) (by decide) rfl (fun ls hl => ?_)
      refine lv_goto (tgt := 4) X.1 X.2.1 dX3_powerOf_16 (by decide) ?_
      exact ih Y (lv_sub hl [2, 3, 1, 0] rfl) hF
set_option maxRecDepth 100000 in
set_option maxHeartbeats 4000000 in
theorem mX3_powerOf (l : Launch) (G : hp_G) {x0 : Int32} {x1 : Int32} {h : hp_H} {r : Int32} (hF : fX3_powerOf x0 x1 = some r) : Met l yX3_powerOf wsX3_powerOf rmX3_powerOf (va_Pc [.int x0, .int x1] (hp_S G h)) (va_Qi (fun r' u => r' = r ∧ u = h) (hp_B G h) (hp_A h)) 0 0 (hp_A h) := by
  refine hp_met (cc := cX3_powerOf) (nL := 4) (ret := (some .int)) (by decide) rfl ?_
  intro p e s m below meth c X Y
  have hl := lv_entry ([.int x0, .int x1]) (n := 4) (Nat.le_of_ble_eq_true rfl)
  rw [lg_entry_eq]
  generalize (lg_sl ([.int x0, .int x1]) ++ List.replicate (4 - (lg_sl ([.int x0, .int x1])).length) Slot.unset).toArray = ls at hl ⊢
  have hl : lv_has ls 4 [(0, .int x0), (1, .int x1)] := hl
  unfold fX3_powerOf at hF
  refine lv_iconst (v := 1) X.1 X.2.1 dX3_powerOf_0 (by decide) ?_
  refine lv_istore_n (lv' := [(2, .int (1 : Int32)), (0, .int x0), (1, .int x1)]) X.1 X.2.1 dX3_powerOf_1 rfl hl (by decide) rfl (fun ls hl => ?_)
  refine lv_iconst (v := 0) X.1 X.2.1 dX3_powerOf_2 (by decide) ?_
  refine lv_istore_n (lv' := [(3, .int (0 : Int32)), (2, .int (1 : Int32)), (0, .int x0), (1, .int x1)]) X.1 X.2.1 dX3_powerOf_3 rfl hl (by decide) rfl (fun ls hl => ?_)
  exact wX3_powerOf_4 X  hp_n Y (lv_sub hl [2, 3, 1, 0] rfl) hF

/-! WholeNumbers$Text.letterOf -/
def rmX3_letterOf : Room := { frames := 0, cells := 0, slots := 0, locals := 0 }
def bX3_letterOf_20   (t0 : Int32) : Option Int32 :=
  some (hp_i2c t0)
def fX3_letterOf (x0 : Int32) : Option Int32 :=
  if (10 : Int32) ≤ x0 then (
    bX3_letterOf_20 (((97 : Int32) + x0) - (10 : Int32)))
  else (
    bX3_letterOf_20 ((48 : Int32) + x0))
theorem ndX3_letterOf : yX3_letterOf.cls ≠ "java/lang/invoke/MethodHandle" ∧ yX3_letterOf.cls ≠ "java/lang/invoke/VarHandle" ∧ (parseMethodDescriptor yX3_letterOf.desc).map (fun d => d.parameters.length) = some 1 := by decide +kernel
set_option maxRecDepth 100000 in
set_option maxHeartbeats 4000000 in
theorem wX3_letterOf_20 {p : Program} {l : Launch} {e : Env} {s : State} {m : MethodId} {args : Array Value} {below : List Frame} {meth : Method} {c : Code} {G : hp_G} {h0 : hp_H} {r : Int32} (X : hp_X p s m args meth c cX3_letterOf 1 RX3 wsX3_letterOf (some .char) G)     {t0 : Int32} {H : Heap} {locs : List Loc} {ls : Array Slot} (Y : hp_Y G h0 h0 s H locs) (hl : lv_has ls 1 []) (hF : bX3_letterOf_20  t0 = some r) : W p l e rmX3_letterOf s m args below meth c H locs 0 0 (MQ below (va_Qi (fun r' u => r' = r ∧ u = h0) (hp_B G h0) (hp_A h0)) args s 0 0 (hp_A h0)) (F0 m 20 ls [.int t0]) := by
  unfold bX3_letterOf_20 at hF
  refine lv_i2c (v := hp_i2c t0) X.1 X.2.1 dX3_letterOf_20 rfl ?_
  cases hF
  exact hp_ri X Y rfl (pk_nc _) dX3_letterOf_21
set_option maxRecDepth 100000 in
set_option maxHeartbeats 4000000 in
theorem mX3_letterOf (l : Launch) (G : hp_G) {x0 : Int32} {h : hp_H} {r : Int32} (hF : fX3_letterOf x0 = some r) : Met l yX3_letterOf wsX3_letterOf rmX3_letterOf (va_Pc [.int x0] (hp_S G h)) (va_Qi (fun r' u => r' = r ∧ u = h) (hp_B G h) (hp_A h)) 0 0 (hp_A h) := by
  refine hp_met (cc := cX3_letterOf) (nL := 1) (ret := (some .char)) (by decide) rfl ?_
  intro p e s m below meth c X Y
  have hl := lv_entry ([.int x0]) (n := 1) (Nat.le_of_ble_eq_true rfl)
  rw [lg_entry_eq]
  generalize (lg_sl ([.int x0]) ++ List.replicate (1 - (lg_sl ([.int x0])).length) Slot.unset).toArray = ls at hl ⊢
  have hl : lv_has ls 1 [(0, .int x0)] := hl
  unfold fX3_letterOf at hF
  refine lv_iload_n X.1 X.2.1 dX3_letterOf_0 rfl (lv_at hl 0 rfl) ?_
  refine lv_bipush (v := 10) X.1 X.2.1 dX3_letterOf_1 (by decide) ?_
  refine lv_icmp_ge (tgt := 13) X.1 X.2.1 dX3_letterOf_3 (by decide) (fun c1 => ?_) (fun c1 => ?_)
  · have hF := hp_ifp (c1) hF
    refine lv_bipush (v := 97) X.1 X.2.1 dX3_letterOf_13 (by decide) ?_
    refine lv_iload_n X.1 X.2.1 dX3_letterOf_15 rfl (lv_at hl 0 rfl) ?_
    refine lv_iadd X.1 X.2.1 dX3_letterOf_16 ?_
    refine lv_bipush (v := 10) X.1 X.2.1 dX3_letterOf_17 (by decide) ?_
    refine lv_isub X.1 X.2.1 dX3_letterOf_19 ?_
    exact wX3_letterOf_20 X  Y (lv_sub hl [] rfl) hF
  · have hF := hp_ifn (c1) hF
    refine lv_bipush (v := 48) X.1 X.2.1 dX3_letterOf_6 (by decide) ?_
    refine lv_iload_n X.1 X.2.1 dX3_letterOf_8 rfl (lv_at hl 0 rfl) ?_
    refine lv_iadd X.1 X.2.1 dX3_letterOf_9 ?_
    refine lv_goto (tgt := 20) X.1 X.2.1 dX3_letterOf_10 (by decide) ?_
    exact wX3_letterOf_20 X  Y (lv_sub hl [] rfl) hF

/-! WholeNumbers$Text.appendDigitsBackwards -/
def rmX3_appendDigitsBackwards : Room := { frames := 3, cells := 0, slots := 0, locals := 69 }
def bX3_appendDigitsBackwards_101 (k34 : Int32 → hp_H → Option hp_H) (x0 : Nat) (x1 : Nat) (x2 : Int32) (x3 : Int32) (x4 : Int32) (x5 : Int32)  (h : hp_H) : Option hp_H :=
  (some (x5 + (1 : Int32))).bind fun v1 =>
  k34 v1 h
def bX3_appendDigitsBackwards_78 (k34 : Int32 → hp_H → Option hp_H) (k60 : Int32 → Int32 → hp_H → Option hp_H) (x0 : Nat) (x1 : Nat) (x2 : Int32) (x3 : Int32) (x4 : Int32) (x5 : Int32) (x6 : Int32) (x7 : Int32)  (h : hp_H) : Option hp_H :=
  if ¬ x2 = 0 then
  (fX3_letterOf (hp_irem x6 x2)).bind fun v3 =>
  (fX3_append x0 v3 h).bind fun h5 =>
  if ¬ x2 = 0 then
  (some (x6 / x2)).bind fun v7 =>
  (some (x7 + (1 : Int32))).bind fun v9 =>
  k60 v7 v9 h5
  else none
  else none
def bX3_appendDigitsBackwards_60 (k34 : Int32 → hp_H → Option hp_H) (x0 : Nat) (x1 : Nat) (x2 : Int32) (x3 : Int32) (x4 : Int32) (x5 : Int32) : Nat → Int32 → Int32 → hp_H → Option hp_H
  | 0, _, _, _ => none
  | n + 1, x6, x7, h =>
  if x3 ≤ x7 then (
    bX3_appendDigitsBackwards_101 k34 x0 x1 x2 x3 x4 x5 h)
  else (
    if 0 < x6 then (
      bX3_appendDigitsBackwards_78 k34 (bX3_appendDigitsBackwards_60 k34 x0 x1 x2 x3 x4 x5 n) x0 x1 x2 x3 x4 x5 x6 x7 h)
    else (
      (fX2_isZero x1 h).bind fun v4 =>
      if v4 = 0 then (
        bX3_appendDigitsBackwards_78 k34 (bX3_appendDigitsBackwards_60 k34 x0 x1 x2 x3 x4 x5 n) x0 x1 x2 x3 x4 x5 x6 x7 h)
      else (
        bX3_appendDigitsBackwards_101 k34 x0 x1 x2 x3 x4 x5 h)))
def bX3_appendDigitsBackwards_34  (x0 : Nat) (x1 : Nat) (x2 : Int32) (x3 : Int32) (x4 : Int32) : Nat → Int32 → hp_H → Option hp_H
  | 0, _, _ => none
  | n + 1, x5, h =>
  if (4096 : Int32) ≤ x5 then (
    some h)
  else (
    (fX2_isZero x1 h).bind fun v3 =>
    if v3 = 0 then (
      (fX2_cutBy x1 x4 h).bind fun (v7, h6) =>
      bX3_appendDigitsBackwards_60 (bX3_appendDigitsBackwards_34 x0 x1 x2 x3 x4 n) x0 x1 x2 x3 x4 x5 hp_n v7 (0 : Int32) h6)
    else (
      some h))
def bX3_appendDigitsBackwards_13  (x0 : Nat) (x1 : Nat) (x2 : Int32)  (h : hp_H) : Option hp_H :=
  if (2 : Int32) ≤ x2 then (
    (fX3_digitsInLimb x2).bind fun v3 =>
    (fX3_powerOf x2 v3).bind fun v5 =>
    bX3_appendDigitsBackwards_34 x0 x1 x2 v3 v5 hp_n (0 : Int32) h)
  else (
    some h)
def fX3_appendDigitsBackwards (x0 : Nat) (x1 : Nat) (x2 : Int32) (h : hp_H) : Option hp_H :=
  if hp_o h x0 3 = true then
  (fX2_isZero x1 h).bind fun v2 =>
  if v2 = 0 then (
    bX3_appendDigitsBackwards_13 x0 x1 x2 h)
  else (
    (fX3_append x0 (48 : Int32) h).bind fun h5 =>
    bX3_appendDigitsBackwards_13 x0 x1 x2 h5)
  else none
theorem ndX3_appendDigitsBackwards : yX3_appendDigitsBackwards.cls ≠ "java/lang/invoke/MethodHandle" ∧ yX3_appendDigitsBackwards.cls ≠ "java/lang/invoke/VarHandle" ∧ (parseMethodDescriptor yX3_appendDigitsBackwards.desc).map (fun d => d.parameters.length) = some 2 := by decide +kernel
set_option maxRecDepth 100000 in
set_option maxHeartbeats 4000000 in
theorem wX3_appendDigitsBackwards_101 {p : Program} {l : Launch} {e : Env} {s : State} {m : MethodId} {args : Array Value} {below : List Frame} {meth : Method} {c : Code} {G : hp_G} {h0 h' : hp_H}  (X : hp_X p s m args meth c cX3_appendDigitsBackwards 8 RX3 wsX3_appendDigitsBackwards none G) {k34 : Int32 → hp_H → Option hp_H} {x0 : Nat} {x1 : Nat} {x2 : Int32} {x3 : Int32} {x4 : Int32} {x5 : Int32}  (hk34 : ∀ (y5 : Int32) (h : hp_H) (H : Heap) (locs : List Loc) (ls : Array Slot), hp_Y G h h0 s H locs → lv_has ls 8 [(0, .ref x0), (1, .ref x1), (2, .int x2), (3, .int x3), (4, .int x4), (5, .int y5)] → k34 y5 h = some h' → W p l e rmX3_appendDigitsBackwards s m args below meth c H locs 0 0 (MQ below (va_Qv (fun u => u = h') (hp_B G h0) (hp_A h0)) args s 0 0 (hp_A h0)) (F0 m 34 ls [])) {h : hp_H} {H : Heap} {locs : List Loc} {ls : Array Slot} (Y : hp_Y G h h0 s H locs) (hl : lv_has ls 8 [(0, .ref x0), (1, .ref x1), (2, .int x2), (3, .int x3), (4, .int x4), (5, .int x5)]) (hF : bX3_appendDigitsBackwards_101 k34 x0 x1 x2 x3 x4 x5 h = some h') : W p l e rmX3_appendDigitsBackwards s m args below meth c H locs 0 0 (MQ below (va_Qv (fun u => u = h') (hp_B G h0) (hp_A h0)) args s 0 0 (hp_A h0)) (F0 m 101 ls []) := by
  unfold bX3_appendDigitsBackwards_101 at hF
  obtain ⟨v1, e2, hF⟩ := hp_b hF
  refine lv_iinc (v := v1) (lv' := [(5, .int v1), (0, .ref x0), (1, .ref x1), (2, .int x2), (3, .int x3), (4, .int x4)]) X.1 X.2.1 dX3_appendDigitsBackwards_101 hl (k := 5) rfl (Option.some.inj e2) (by decide) rfl (fun ls hl => ?_)
  refine lv_goto (tgt := 34) X.1 X.2.1 dX3_appendDigitsBackwards_104 (by decide) ?_
  exact hk34 _ _  _ _ _ Y (lv_sub hl [1, 2, 3, 4, 5, 0] rfl) hF
set_option maxRecDepth 100000 in
set_option maxHeartbeats 4000000 in
theorem wX3_appendDigitsBackwards_78 {p : Program} {l : Launch} {e : Env} {s : State} {m : MethodId} {args : Array Value} {below : List Frame} {meth : Method} {c : Code} {G : hp_G} {h0 h' : hp_H}  (X : hp_X p s m args meth c cX3_appendDigitsBackwards 8 RX3 wsX3_appendDigitsBackwards none G) {k34 : Int32 → hp_H → Option hp_H} {k60 : Int32 → Int32 → hp_H → Option hp_H} {x0 : Nat} {x1 : Nat} {x2 : Int32} {x3 : Int32} {x4 : Int32} {x5 : Int32} {x6 : Int32} {x7 : Int32}  (hk34 : ∀ (y5 : Int32) (h : hp_H) (H : Heap) (locs : List Loc) (ls : Array Slot), hp_Y G h h0 s H locs → lv_has ls 8 [(0, .ref x0), (1, .ref x1), (2, .int x2), (3, .int x3), (4, .int x4), (5, .int y5)] → k34 y5 h = some h' → W p l e rmX3_appendDigitsBackwards s m args below meth c H locs 0 0 (MQ below (va_Qv (fun u => u = h') (hp_B G h0) (hp_A h0)) args s 0 0 (hp_A h0)) (F0 m 34 ls [])) (hk60 : ∀ (y6 : Int32) (y7 : Int32) (h : hp_H) (H : Heap) (locs : List Loc) (ls : Array Slot), hp_Y G h h0 s H locs → lv_has ls 8 [(0, .ref x0), (1, .ref x1), (2, .int x2), (3, .int x3), (4, .int x4), (5, .int x5), (6, .int y6), (7, .int y7)] → k60 y6 y7 h = some h' → W p l e rmX3_appendDigitsBackwards s m args below meth c H locs 0 0 (MQ below (va_Qv (fun u => u = h') (hp_B G h0) (hp_A h0)) args s 0 0 (hp_A h0)) (F0 m 60 ls [])) {h : hp_H} {H : Heap} {locs : List Loc} {ls : Array Slot} (Y : hp_Y G h h0 s H locs) (hl : lv_has ls 8 [(0, .ref x0), (1, .ref x1), (2, .int x2), (3, .int x3), (4, .int x4), (5, .int x5), (6, .int x6), (7, .int x7)]) (hF : bX3_appendDigitsBackwards_78 k34 k60 x0 x1 x2 x3 x4 x5 x6 x7 h = some h') : W p l e rmX3_appendDigitsBackwards s m args below meth c H locs 0 0 (MQ below (va_Qv (fun u => u = h') (hp_B G h0) (hp_A h0)) args s 0 0 (hp_A h0)) (F0 m 78 ls []) := by
  unfold bX3_appendDigitsBackwards_78 at hF
  refine lv_aload_n X.1 X.2.1 dX3_appendDigitsBackwards_78 rfl (lv_at hl 0 rfl) ?_
  refine lv_iload X.1 X.2.1 dX3_appendDigitsBackwards_79 (lv_at hl 6 rfl) ?_
  refine lv_iload_n X.1 X.2.1 dX3_appendDigitsBackwards_81 rfl (lv_at hl 2 rfl) ?_
  obtain ⟨e1, hF⟩ := hp_ift hF
  refine lv_irem X.1 X.2.1 dX3_appendDigitsBackwards_82 e1 ?_
  obtain ⟨v3, e2, hF⟩ := hp_b hF
  refine hp_ci Y (hp_runS X Y (As := [.int (hp_irem x6 x2)]) (n := 1) (mX3_letterOf l G e2) gX3_appendDigitsBackwards_X3_letterOf rfl rfl rfl ndX3_letterOf ⟨Nat.le_of_ble_eq_true rfl, Nat.le_of_ble_eq_true rfl⟩ rfl hl.1 rfl (Nat.le_of_ble_eq_true rfl) dX3_appendDigitsBackwards_83 ⟨Nat.zero_le _, Nat.zero_le _⟩) (fun H locs Y => ?_)
  obtain ⟨h5, e4, hF⟩ := hp_b hF
  refine hp_cv Y (hp_runV X Y (ci := 3) (As := [.int v3]) (n := 1) (T := TX3) (N := 2) (mX3_append l G e4) rfl (oX3_append e4) gX3_appendDigitsBackwards_X3_append rfl rfl rfl ndX3_append ⟨Nat.le_of_ble_eq_true rfl, Nat.le_of_ble_eq_true rfl⟩ rfl hl.1 rfl (Nat.le_of_ble_eq_true rfl) dX3_appendDigitsBackwards_86 ⟨Nat.zero_le _, Nat.zero_le _⟩) (fun H locs Y => ?_)
  refine lv_iload X.1 X.2.1 dX3_appendDigitsBackwards_89 (lv_at hl 6 rfl) ?_
  refine lv_iload_n X.1 X.2.1 dX3_appendDigitsBackwards_91 rfl (lv_at hl 2 rfl) ?_
  obtain ⟨e6, hF⟩ := hp_ift hF
  refine lv_idiv X.1 X.2.1 dX3_appendDigitsBackwards_92 e6 ?_
  obtain ⟨v7, e8, hF⟩ := hp_b hF
  refine hp_ti (Option.some.inj e8) ?_
  refine lv_istore (lv' := [(6, .int v7), (0, .ref x0), (1, .ref x1), (2, .int x2), (3, .int x3), (4, .int x4), (5, .int x5), (7, .int x7)]) X.1 X.2.1 dX3_appendDigitsBackwards_93 hl (by decide) rfl (fun ls hl => ?_)
  obtain ⟨v9, e10, hF⟩ := hp_b hF
  refine lv_iinc (v := v9) (lv' := [(7, .int v9), (6, .int v7), (0, .ref x0), (1, .ref x1), (2, .int x2), (3, .int x3), (4, .int x4), (5, .int x5)]) X.1 X.2.1 dX3_appendDigitsBackwards_95 hl (k := 7) rfl (Option.some.inj e10) (by decide) rfl (fun ls hl => ?_)
  refine lv_goto (tgt := 60) X.1 X.2.1 dX3_appendDigitsBackwards_98 (by decide) ?_
  exact hk60 _ _ _  _ _ _ Y (lv_sub hl [2, 3, 4, 5, 6, 7, 1, 0] rfl) hF
set_option maxRecDepth 100000 in
set_option maxHeartbeats 4000000 in
theorem wX3_appendDigitsBackwards_60 {p : Program} {l : Launch} {e : Env} {s : State} {m : MethodId} {args : Array Value} {below : List Frame} {meth : Method} {c : Code} {G : hp_G} {h0 h' : hp_H}  (X : hp_X p s m args meth c cX3_appendDigitsBackwards 8 RX3 wsX3_appendDigitsBackwards none G) {k34 : Int32 → hp_H → Option hp_H} {x0 : Nat} {x1 : Nat} {x2 : Int32} {x3 : Int32} {x4 : Int32} {x5 : Int32}  (hk34 : ∀ (y5 : Int32) (h : hp_H) (H : Heap) (locs : List Loc) (ls : Array Slot), hp_Y G h h0 s H locs → lv_has ls 8 [(0, .ref x0), (1, .ref x1), (2, .int x2), (3, .int x3), (4, .int x4), (5, .int y5)] → k34 y5 h = some h' → W p l e rmX3_appendDigitsBackwards s m args below meth c H locs 0 0 (MQ below (va_Qv (fun u => u = h') (hp_B G h0) (hp_A h0)) args s 0 0 (hp_A h0)) (F0 m 34 ls [])) : ∀ (n : Nat) {x6 : Int32} {x7 : Int32} {h : hp_H} {H : Heap} {locs : List Loc} {ls : Array Slot} (Y : hp_Y G h h0 s H locs) (hl : lv_has ls 8 [(0, .ref x0), (1, .ref x1), (2, .int x2), (3, .int x3), (4, .int x4), (5, .int x5), (6, .int x6), (7, .int x7)]) (hF : bX3_appendDigitsBackwards_60 k34 x0 x1 x2 x3 x4 x5 n x6 x7 h = some h'), W p l e rmX3_appendDigitsBackwards s m args below meth c H locs 0 0 (MQ below (va_Qv (fun u => u = h') (hp_B G h0) (hp_A h0)) args s 0 0 (hp_A h0)) (F0 m 60 ls []) := by
  intro n
  induction n with
  | zero =>
    intro x6 x7 h H locs ls Y hl hF
    exact absurd (show none = some _ from hF) (by simp)
  | succ n ih =>
    intro x6 x7 h H locs ls Y hl hF
    rw [bX3_appendDigitsBackwards_60] at hF
    refine lv_iload X.1 X.2.1 dX3_appendDigitsBackwards_60 (lv_at hl 7 rfl) ?_
    refine lv_iload_n X.1 X.2.1 dX3_appendDigitsBackwards_62 rfl (lv_at hl 3 rfl) ?_
    refine lv_icmp_ge (tgt := 101) X.1 X.2.1 dX3_appendDigitsBackwards_63 (by decide) (fun c1 => ?_) (fun c1 => ?_)
    · have hF := hp_ifp (c1) hF
      exact wX3_appendDigitsBackwards_101 X hk34 Y (lv_sub hl [0, 1, 2, 3, 4, 5] rfl) hF
    · have hF := hp_ifn (c1) hF
      refine lv_iload X.1 X.2.1 dX3_appendDigitsBackwards_66 (lv_at hl 6 rfl) ?_
      refine lv_if_gt (tgt := 78) X.1 X.2.1 dX3_appendDigitsBackwards_68 (by decide) (fun c2 => ?_) (fun c2 => ?_)
      · have hF := hp_ifp (c2) hF
        exact wX3_appendDigitsBackwards_78 X hk34 (fun _ _ _ _ _ _ Y hl hF => ih Y hl hF) Y (lv_sub hl [0, 1, 2, 3, 4, 5, 6, 7] rfl) hF
      · have hF := hp_ifn (c2) hF
        refine lv_aload_n X.1 X.2.1 dX3_appendDigitsBackwards_71 rfl (lv_at hl 1 rfl) ?_
        obtain ⟨v4, e3, hF⟩ := hp_b hF
        refine hp_ci Y (hp_runV X Y (ci := 2) (As := []) (n := 0) (T := TX2) (N := 2) (mX2_isZero l G e3) rfl (oX2_isZero e3) gX3_appendDigitsBackwards_X2_isZero rfl rfl rfl ndX2_isZero ⟨Nat.le_of_ble_eq_true rfl, Nat.le_of_ble_eq_true rfl⟩ rfl hl.1 rfl (Nat.le_of_ble_eq_true rfl) dX3_appendDigitsBackwards_72 ⟨Nat.zero_le _, Nat.zero_le _⟩) (fun H locs Y => ?_)
        refine lv_if_ne (tgt := 101) X.1 X.2.1 dX3_appendDigitsBackwards_75 (by decide) (fun c5 => ?_) (fun c5 => ?_)
        · have hF := hp_ifn (c5) hF
          exact wX3_appendDigitsBackwards_101 X hk34 Y (lv_sub hl [0, 1, 2, 3, 4, 5] rfl) hF
        · have hF := hp_ifp (c5) hF
          exact wX3_appendDigitsBackwards_78 X hk34 (fun _ _ _ _ _ _ Y hl hF => ih Y hl hF) Y (lv_sub hl [0, 1, 2, 3, 4, 5, 6, 7] rfl) hF
set_option maxRecDepth 100000 in
set_option maxHeartbeats 4000000 in
theorem wX3_appendDigitsBackwards_34 {p : Program} {l : Launch} {e : Env} {s : State} {m : MethodId} {args : Array Value} {below : List Frame} {meth : Method} {c : Code} {G : hp_G} {h0 h' : hp_H}  (X : hp_X p s m args meth c cX3_appendDigitsBackwards 8 RX3 wsX3_appendDigitsBackwards none G)  {x0 : Nat} {x1 : Nat} {x2 : Int32} {x3 : Int32} {x4 : Int32}   : ∀ (n : Nat) {x5 : Int32} {h : hp_H} {H : Heap} {locs : List Loc} {ls : Array Slot} (Y : hp_Y G h h0 s H locs) (hl : lv_has ls 8 [(0, .ref x0), (1, .ref x1), (2, .int x2), (3, .int x3), (4, .int x4), (5, .int x5)]) (hF : bX3_appendDigitsBackwards_34 x0 x1 x2 x3 x4 n x5 h = some h'), W p l e rmX3_appendDigitsBackwards s m args below meth c H locs 0 0 (MQ below (va_Qv (fun u => u = h') (hp_B G h0) (hp_A h0)) args s 0 0 (hp_A h0)) (F0 m 34 ls []) := by
  intro n
  induction n with
  | zero =>
    intro x5 h H locs ls Y hl hF
    exact absurd (show none = some _ from hF) (by simp)
  | succ n ih =>
    intro x5 h H locs ls Y hl hF
    rw [bX3_appendDigitsBackwards_34] at hF
    refine lv_iload X.1 X.2.1 dX3_appendDigitsBackwards_34 (lv_at hl 5 rfl) ?_
    refine lv_sipush (v := 4096) X.1 X.2.1 dX3_appendDigitsBackwards_36 (by decide) ?_
    refine lv_icmp_ge (tgt := 107) X.1 X.2.1 dX3_appendDigitsBackwards_39 (by decide) (fun c1 => ?_) (fun c1 => ?_)
    · have hF := hp_ifp (c1) hF
      cases hF
      exact hp_rv X Y rfl dX3_appendDigitsBackwards_107
    · have hF := hp_ifn (c1) hF
      refine lv_aload_n X.1 X.2.1 dX3_appendDigitsBackwards_42 rfl (lv_at hl 1 rfl) ?_
      obtain ⟨v3, e2, hF⟩ := hp_b hF
      refine hp_ci Y (hp_runV X Y (ci := 2) (As := []) (n := 0) (T := TX2) (N := 2) (mX2_isZero l G e2) rfl (oX2_isZero e2) gX3_appendDigitsBackwards_X2_isZero rfl rfl rfl ndX2_isZero ⟨Nat.le_of_ble_eq_true rfl, Nat.le_of_ble_eq_true rfl⟩ rfl hl.1 rfl (Nat.le_of_ble_eq_true rfl) dX3_appendDigitsBackwards_43 ⟨Nat.zero_le _, Nat.zero_le _⟩) (fun H locs Y => ?_)
      refine lv_if_ne (tgt := 107) X.1 X.2.1 dX3_appendDigitsBackwards_46 (by decide) (fun c4 => ?_) (fun c4 => ?_)
      · have hF := hp_ifn (c4) hF
        cases hF
        exact hp_rv X Y rfl dX3_appendDigitsBackwards_107
      · have hF := hp_ifp (c4) hF
        refine lv_aload_n X.1 X.2.1 dX3_appendDigitsBackwards_49 rfl (lv_at hl 1 rfl) ?_
        refine lv_iload X.1 X.2.1 dX3_appendDigitsBackwards_50 (lv_at hl 4 rfl) ?_
        obtain ⟨⟨v7, h6⟩, e5, hF⟩ := hp_b hF
        refine hp_ci Y (hp_runV X Y (ci := 2) (As := [.int x4]) (n := 1) (T := TX2) (N := 2) (mX2_cutBy l G e5) rfl (oX2_cutBy e5) gX3_appendDigitsBackwards_X2_cutBy rfl rfl rfl ndX2_cutBy ⟨Nat.le_of_ble_eq_true rfl, Nat.le_of_ble_eq_true rfl⟩ rfl hl.1 rfl (Nat.le_of_ble_eq_true rfl) dX3_appendDigitsBackwards_52 ⟨Nat.zero_le _, Nat.zero_le _⟩) (fun H locs Y => ?_)
        refine lv_istore (lv' := [(6, .int v7), (0, .ref x0), (1, .ref x1), (2, .int x2), (3, .int x3), (4, .int x4), (5, .int x5)]) X.1 X.2.1 dX3_appendDigitsBackwards_55 hl (by decide) rfl (fun ls hl => ?_)
        refine lv_iconst (v := 0) X.1 X.2.1 dX3_appendDigitsBackwards_57 (by decide) ?_
        refine lv_istore (lv' := [(7, .int (0 : Int32)), (6, .int v7), (0, .ref x0), (1, .ref x1), (2, .int x2), (3, .int x3), (4, .int x4), (5, .int x5)]) X.1 X.2.1 dX3_appendDigitsBackwards_58 hl (by decide) rfl (fun ls hl => ?_)
        exact wX3_appendDigitsBackwards_60 X (fun _ _ _ _ _ Y hl hF => ih Y hl hF) hp_n Y (lv_sub hl [2, 3, 4, 5, 6, 7, 1, 0] rfl) hF
set_option maxRecDepth 100000 in
set_option maxHeartbeats 4000000 in
theorem wX3_appendDigitsBackwards_13 {p : Program} {l : Launch} {e : Env} {s : State} {m : MethodId} {args : Array Value} {below : List Frame} {meth : Method} {c : Code} {G : hp_G} {h0 h' : hp_H}  (X : hp_X p s m args meth c cX3_appendDigitsBackwards 8 RX3 wsX3_appendDigitsBackwards none G)  {x0 : Nat} {x1 : Nat} {x2 : Int32}   {h : hp_H} {H : Heap} {locs : List Loc} {ls : Array Slot} (Y : hp_Y G h h0 s H locs) (hl : lv_has ls 8 [(0, .ref x0), (1, .ref x1), (2, .int x2)]) (hF : bX3_appendDigitsBackwards_13 x0 x1 x2 h = some h') : W p l e rmX3_appendDigitsBackwards s m args below meth c H locs 0 0 (MQ below (va_Qv (fun u => u = h') (hp_B G h0) (hp_A h0)) args s 0 0 (hp_A h0)) (F0 m 13 ls []) := by
  unfold bX3_appendDigitsBackwards_13 at hF
  refine lv_iload_n X.1 X.2.1 dX3_appendDigitsBackwards_13 rfl (lv_at hl 2 rfl) ?_
  refine lv_iconst (v := 2) X.1 X.2.1 dX3_appendDigitsBackwards_14 (by decide) ?_
  refine lv_icmp_ge (tgt := 19) X.1 X.2.1 dX3_appendDigitsBackwards_15 (by decide) (fun c1 => ?_) (fun c1 => ?_)
  · have hF := hp_ifp (c1) hF
    refine lv_iload_n X.1 X.2.1 dX3_appendDigitsBackwards_19 rfl (lv_at hl 2 rfl) ?_
    obtain ⟨v3, e2, hF⟩ := hp_b hF
    refine hp_ci Y (hp_runS X Y (As := [.int x2]) (n := 1) (mX3_digitsInLimb l G e2) gX3_appendDigitsBackwards_X3_digitsInLimb rfl rfl rfl ndX3_digitsInLimb ⟨Nat.le_of_ble_eq_true rfl, Nat.le_of_ble_eq_true rfl⟩ rfl hl.1 rfl (Nat.le_of_ble_eq_true rfl) dX3_appendDigitsBackwards_20 ⟨Nat.zero_le _, Nat.zero_le _⟩) (fun H locs Y => ?_)
    refine lv_istore_n (lv' := [(3, .int v3), (0, .ref x0), (1, .ref x1), (2, .int x2)]) X.1 X.2.1 dX3_appendDigitsBackwards_23 rfl hl (by decide) rfl (fun ls hl => ?_)
    refine lv_iload_n X.1 X.2.1 dX3_appendDigitsBackwards_24 rfl (lv_at hl 3 rfl) ?_
    refine lv_iload_n X.1 X.2.1 dX3_appendDigitsBackwards_25 rfl (lv_at hl 0 rfl) ?_
    obtain ⟨v5, e4, hF⟩ := hp_b hF
    refine hp_ci Y (hp_runS X Y (As := [.int x2, .int v3]) (n := 2) (mX3_powerOf l G e4) gX3_appendDigitsBackwards_X3_powerOf rfl rfl rfl ndX3_powerOf ⟨Nat.le_of_ble_eq_true rfl, Nat.le_of_ble_eq_true rfl⟩ rfl hl.1 rfl (Nat.le_of_ble_eq_true rfl) dX3_appendDigitsBackwards_26 ⟨Nat.zero_le _, Nat.zero_le _⟩) (fun H locs Y => ?_)
    refine lv_istore (lv' := [(4, .int v5), (3, .int v3), (0, .ref x0), (1, .ref x1), (2, .int x2)]) X.1 X.2.1 dX3_appendDigitsBackwards_29 hl (by decide) rfl (fun ls hl => ?_)
    refine lv_iconst (v := 0) X.1 X.2.1 dX3_appendDigitsBackwards_31 (by decide) ?_
    refine lv_istore (lv' := [(5, .int (0 : Int32)), (4, .int v5), (3, .int v3), (0, .ref x0), (1, .ref x1), (2, .int x2)]) X.1 X.2.1 dX3_appendDigitsBackwards_32 hl (by decide) rfl (fun ls hl => ?_)
    exact wX3_appendDigitsBackwards_34 X  hp_n Y (lv_sub hl [3, 4, 5, 2, 1, 0] rfl) hF
  · have hF := hp_ifn (c1) hF
    cases hF
    exact hp_rv X Y rfl dX3_appendDigitsBackwards_18
theorem oX3_appendDigitsBackwards {x0 : Nat} {x1 : Nat} {x2 : Int32} {h h' : hp_H}  (hF : fX3_appendDigitsBackwards x0 x1 x2 h = some h') : hp_o h x0 3 = true := by
  unfold fX3_appendDigitsBackwards at hF
  exact (hp_ift hF).1
set_option maxRecDepth 100000 in
set_option maxHeartbeats 4000000 in
theorem mX3_appendDigitsBackwards (l : Launch) (G : hp_G) {x0 : Nat} {x1 : Nat} {x2 : Int32} {h h' : hp_H}  (hF : fX3_appendDigitsBackwards x0 x1 x2 h = some h') : Met l yX3_appendDigitsBackwards wsX3_appendDigitsBackwards rmX3_appendDigitsBackwards (va_Pc [.ref x0, .ref x1, .int x2] (hp_S G h)) (va_Qv (fun u => u = h') (hp_B G h) (hp_A h)) 0 0 (hp_A h) := by
  refine hp_met (cc := cX3_appendDigitsBackwards) (nL := 8) (ret := none) (by decide) rfl ?_
  intro p e s m below meth c X Y
  have hl := lv_entry ([.ref x0, .ref x1, .int x2]) (n := 8) (Nat.le_of_ble_eq_true rfl)
  rw [lg_entry_eq]
  generalize (lg_sl ([.ref x0, .ref x1, .int x2]) ++ List.replicate (8 - (lg_sl ([.ref x0, .ref x1, .int x2])).length) Slot.unset).toArray = ls at hl ⊢
  have hl : lv_has ls 8 [(0, .ref x0), (1, .ref x1), (2, .int x2)] := hl
  unfold fX3_appendDigitsBackwards at hF
  obtain ⟨ho, hF⟩ := hp_ift hF
  refine lv_aload_n X.1 X.2.1 dX3_appendDigitsBackwards_0 rfl (lv_at hl 1 rfl) ?_
  obtain ⟨v2, e1, hF⟩ := hp_b hF
  refine hp_ci Y (hp_runV X Y (ci := 2) (As := []) (n := 0) (T := TX2) (N := 2) (mX2_isZero l G e1) rfl (oX2_isZero e1) gX3_appendDigitsBackwards_X2_isZero rfl rfl rfl ndX2_isZero ⟨Nat.le_of_ble_eq_true rfl, Nat.le_of_ble_eq_true rfl⟩ rfl hl.1 rfl (Nat.le_of_ble_eq_true rfl) dX3_appendDigitsBackwards_1 ⟨Nat.zero_le _, Nat.zero_le _⟩) (fun H locs Y => ?_)
  refine lv_if_eq (tgt := 13) X.1 X.2.1 dX3_appendDigitsBackwards_4 (by decide) (fun c3 => ?_) (fun c3 => ?_)
  · have hF := hp_ifp (c3) hF
    exact wX3_appendDigitsBackwards_13 X  Y (lv_sub hl [0, 1, 2] rfl) hF
  · have hF := hp_ifn (c3) hF
    refine lv_aload_n X.1 X.2.1 dX3_appendDigitsBackwards_7 rfl (lv_at hl 0 rfl) ?_
    refine lv_bipush (v := 48) X.1 X.2.1 dX3_appendDigitsBackwards_8 (by decide) ?_
    obtain ⟨h5, e4, hF⟩ := hp_b hF
    refine hp_cv Y (hp_runV X Y (ci := 3) (As := [.int (48 : Int32)]) (n := 1) (T := TX3) (N := 2) (mX3_append l G e4) rfl (oX3_append e4) gX3_appendDigitsBackwards_X3_append rfl rfl rfl ndX3_append ⟨Nat.le_of_ble_eq_true rfl, Nat.le_of_ble_eq_true rfl⟩ rfl hl.1 rfl (Nat.le_of_ble_eq_true rfl) dX3_appendDigitsBackwards_10 ⟨Nat.zero_le _, Nat.zero_le _⟩) (fun H locs Y => ?_)
    exact wX3_appendDigitsBackwards_13 X  Y (lv_sub hl [0, 1, 2] rfl) hF

/-! WholeNumbers$Text.reverse -/
def rmX3_reverse : Room := { frames := 0, cells := 0, slots := 0, locals := 0 }
def bX3_reverse_9  (x0 : Nat) : Nat → Int32 → Int32 → hp_H → Option hp_H
  | 0, _, _, _ => none
  | n + 1, x1, x2, h =>
  if x2 ≤ x1 then (
    some h)
  else (
    (hp_gr h x0 3 0).bind fun v2 =>
    (hp_ai h 1 v2 x1).bind fun v4 =>
    (hp_gr h x0 3 0).bind fun v6 =>
    (hp_gr h x0 3 0).bind fun v8 =>
    (hp_ai h 1 v8 x2).bind fun v10 =>
    (hp_si h 1 v6 x1 (vp_nar .char v10)).bind fun h12 =>
    (hp_gr h12 x0 3 0).bind fun v14 =>
    (hp_si h12 1 v14 x2 (vp_nar .char v4)).bind fun h16 =>
    (some (x1 + (1 : Int32))).bind fun v18 =>
    (some (x2 + (-1 : Int32))).bind fun v20 =>
    bX3_reverse_9 x0 n v18 v20 h16)
def fX3_reverse (x0 : Nat) (h : hp_H) : Option hp_H :=
  if hp_o h x0 3 = true then
  (hp_gi h x0 3 1).bind fun v1 =>
  (some (v1 - (1 : Int32))).bind fun v3 =>
  bX3_reverse_9 x0 hp_n (0 : Int32) v3 h
  else none
theorem inX3_reverse_X3 : ∀ w ∈ wsX30, w ∈ wsX3_reverse := by decide +kernel
theorem lkX3_reverse_f9 : Cond.fieldLink RX3 9 (TX3 0).1 (TX3 0).2.1 (TX3 0).2.2.1 ∈ wsX3_reverse := by decide +kernel
theorem lkX3_reverse_f15 : Cond.fieldLink RX3 15 (TX3 1).1 (TX3 1).2.1 (TX3 1).2.2.1 ∈ wsX3_reverse := by decide +kernel
theorem ndX3_reverse : yX3_reverse.cls ≠ "java/lang/invoke/MethodHandle" ∧ yX3_reverse.cls ≠ "java/lang/invoke/VarHandle" ∧ (parseMethodDescriptor yX3_reverse.desc).map (fun d => d.parameters.length) = some 0 := by decide +kernel
set_option maxRecDepth 100000 in
set_option maxHeartbeats 4000000 in
theorem wX3_reverse_9 {p : Program} {l : Launch} {e : Env} {s : State} {m : MethodId} {args : Array Value} {below : List Frame} {meth : Method} {c : Code} {G : hp_G} {h0 h' : hp_H}  (X : hp_X p s m args meth c cX3_reverse 4 RX3 wsX3_reverse none G)  {x0 : Nat}   : ∀ (n : Nat) {x1 : Int32} {x2 : Int32} {h : hp_H} {H : Heap} {locs : List Loc} {ls : Array Slot} (Y : hp_Y G h h0 s H locs) (hl : lv_has ls 4 [(0, .ref x0), (1, .int x1), (2, .int x2)]) (hF : bX3_reverse_9 x0 n x1 x2 h = some h'), W p l e rmX3_reverse s m args below meth c H locs 0 0 (MQ below (va_Qv (fun u => u = h') (hp_B G h0) (hp_A h0)) args s 0 0 (hp_A h0)) (F0 m 9 ls []) := by
  intro n
  induction n with
  | zero =>
    intro x1 x2 h H locs ls Y hl hF
    exact absurd (show none = some _ from hF) (by simp)
  | succ n ih =>
    intro x1 x2 h H locs ls Y hl hF
    rw [bX3_reverse_9] at hF
    refine lv_iload_n X.1 X.2.1 dX3_reverse_9 rfl (lv_at hl 1 rfl) ?_
    refine lv_iload_n X.1 X.2.1 dX3_reverse_10 rfl (lv_at hl 2 rfl) ?_
    refine lv_icmp_ge (tgt := 49) X.1 X.2.1 dX3_reverse_11 (by decide) (fun c1 => ?_) (fun c1 => ?_)
    · have hF := hp_ifp (c1) hF
      cases hF
      exact hp_rv X Y rfl dX3_reverse_49
    · have hF := hp_ifn (c1) hF
      refine lv_aload_n X.1 X.2.1 dX3_reverse_14 rfl (lv_at hl 0 rfl) ?_
      obtain ⟨v2, e3, hF⟩ := hp_b hF
      refine hp_getr X Y (C := RX3) (T := TX3) (N := 2) (ci := 3) (k := 0) rfl inX3_reverse_X3 (by decide) lkX3_reverse_f9 e3 dX3_reverse_15 ?_
      refine lv_iload_n X.1 X.2.1 dX3_reverse_18 rfl (lv_at hl 1 rfl) ?_
      obtain ⟨v4, e5, hF⟩ := hp_b hF
      refine hp_cald X Y e5 dX3_reverse_19 ?_
      refine lv_istore_n (lv' := [(3, .int v4), (0, .ref x0), (1, .int x1), (2, .int x2)]) X.1 X.2.1 dX3_reverse_20 rfl hl (by decide) rfl (fun ls hl => ?_)
      refine lv_aload_n X.1 X.2.1 dX3_reverse_21 rfl (lv_at hl 1 rfl) ?_
      obtain ⟨v6, e7, hF⟩ := hp_b hF
      refine hp_getr X Y (C := RX3) (T := TX3) (N := 2) (ci := 3) (k := 0) rfl inX3_reverse_X3 (by decide) lkX3_reverse_f9 e7 dX3_reverse_22 ?_
      refine lv_iload_n X.1 X.2.1 dX3_reverse_25 rfl (lv_at hl 2 rfl) ?_
      refine lv_aload_n X.1 X.2.1 dX3_reverse_26 rfl (lv_at hl 1 rfl) ?_
      obtain ⟨v8, e9, hF⟩ := hp_b hF
      refine hp_getr X Y (C := RX3) (T := TX3) (N := 2) (ci := 3) (k := 0) rfl inX3_reverse_X3 (by decide) lkX3_reverse_f9 e9 dX3_reverse_27 ?_
      refine lv_iload_n X.1 X.2.1 dX3_reverse_30 rfl (lv_at hl 3 rfl) ?_
      obtain ⟨v10, e11, hF⟩ := hp_b hF
      refine hp_cald X Y e11 dX3_reverse_31 ?_
      obtain ⟨h12, e13, hF⟩ := hp_b hF
      refine hp_cast X Y e13 dX3_reverse_32 (fun H locs Y => ?_)
      refine lv_aload_n X.1 X.2.1 dX3_reverse_33 rfl (lv_at hl 1 rfl) ?_
      obtain ⟨v14, e15, hF⟩ := hp_b hF
      refine hp_getr X Y (C := RX3) (T := TX3) (N := 2) (ci := 3) (k := 0) rfl inX3_reverse_X3 (by decide) lkX3_reverse_f9 e15 dX3_reverse_34 ?_
      refine lv_iload_n X.1 X.2.1 dX3_reverse_37 rfl (lv_at hl 3 rfl) ?_
      refine lv_iload_n X.1 X.2.1 dX3_reverse_38 rfl (lv_at hl 0 rfl) ?_
      obtain ⟨h16, e17, hF⟩ := hp_b hF
      refine hp_cast X Y e17 dX3_reverse_39 (fun H locs Y => ?_)
      obtain ⟨v18, e19, hF⟩ := hp_b hF
      refine lv_iinc (v := v18) (lv' := [(1, .int v18), (3, .int v4), (0, .ref x0), (2, .int x2)]) X.1 X.2.1 dX3_reverse_40 hl (k := 2) rfl (Option.some.inj e19) (by decide) rfl (fun ls hl => ?_)
      obtain ⟨v20, e21, hF⟩ := hp_b hF
      refine lv_iinc (v := v20) (lv' := [(2, .int v20), (1, .int v18), (3, .int v4), (0, .ref x0)]) X.1 X.2.1 dX3_reverse_43 hl (k := 3) rfl (Option.some.inj e21) (by decide) rfl (fun ls hl => ?_)
      refine lv_goto (tgt := 9) X.1 X.2.1 dX3_reverse_46 (by decide) ?_
      exact ih Y (lv_sub hl [3, 1, 0] rfl) hF
theorem oX3_reverse {x0 : Nat} {h h' : hp_H}  (hF : fX3_reverse x0 h = some h') : hp_o h x0 3 = true := by
  unfold fX3_reverse at hF
  exact (hp_ift hF).1
set_option maxRecDepth 100000 in
set_option maxHeartbeats 4000000 in
theorem mX3_reverse (l : Launch) (G : hp_G) {x0 : Nat} {h h' : hp_H}  (hF : fX3_reverse x0 h = some h') : Met l yX3_reverse wsX3_reverse rmX3_reverse (va_Pc [.ref x0] (hp_S G h)) (va_Qv (fun u => u = h') (hp_B G h) (hp_A h)) 0 0 (hp_A h) := by
  refine hp_met (cc := cX3_reverse) (nL := 4) (ret := none) (by decide) rfl ?_
  intro p e s m below meth c X Y
  have hl := lv_entry ([.ref x0]) (n := 4) (Nat.le_of_ble_eq_true rfl)
  rw [lg_entry_eq]
  generalize (lg_sl ([.ref x0]) ++ List.replicate (4 - (lg_sl ([.ref x0])).length) Slot.unset).toArray = ls at hl ⊢
  have hl : lv_has ls 4 [(0, .ref x0)] := hl
  unfold fX3_reverse at hF
  obtain ⟨ho, hF⟩ := hp_ift hF
  refine lv_iconst (v := 0) X.1 X.2.1 dX3_reverse_0 (by decide) ?_
  refine lv_istore_n (lv' := [(1, .int (0 : Int32)), (0, .ref x0)]) X.1 X.2.1 dX3_reverse_1 rfl hl (by decide) rfl (fun ls hl => ?_)
  refine lv_aload_n X.1 X.2.1 dX3_reverse_2 rfl (lv_at hl 1 rfl) ?_
  obtain ⟨v1, e2, hF⟩ := hp_b hF
  refine hp_geti X Y (C := RX3) (T := TX3) (N := 2) (ci := 3) (k := 1) rfl inX3_reverse_X3 (by decide) lkX3_reverse_f15 e2 dX3_reverse_3 ?_
  refine lv_iconst (v := 1) X.1 X.2.1 dX3_reverse_6 (by decide) ?_
  refine lv_isub X.1 X.2.1 dX3_reverse_7 ?_
  obtain ⟨v3, e4, hF⟩ := hp_b hF
  refine hp_ti (Option.some.inj e4) ?_
  refine lv_istore_n (lv' := [(2, .int v3), (1, .int (0 : Int32)), (0, .ref x0)]) X.1 X.2.1 dX3_reverse_8 rfl hl (by decide) rfl (fun ls hl => ?_)
  exact wX3_reverse_9 X  hp_n Y (lv_sub hl [2, 1, 0] rfl) hF

/-! WholeNumbers$Text.spell -/
def rmX3_spell : Room := { frames := 4, cells := 0, slots := 0, locals := 96 }
def bX3_spell_27  (x0 : Nat)  (h : hp_H) : Option hp_H :=
  (fX3_reverse x0 h).bind fun h2 =>
  some h2
def fX3_spell (x0 : Nat) (x1 : Nat) (x2 : Int32) (h : hp_H) : Option hp_H :=
  if hp_o h x0 3 = true then
  (hp_pv h x0 3 1 (.int (0 : Int32))).bind fun h1 =>
  (hp_gr h1 x1 4 0).bind fun v3 =>
  (fX3_appendDigitsBackwards x0 v3 x2 h1).bind fun h6 =>
  (hp_gi h6 x1 4 1).bind fun v7 =>
  if v7 = 0 then (
    bX3_spell_27 x0 h6)
  else (
    (fX3_append x0 (45 : Int32) h6).bind fun h11 =>
    bX3_spell_27 x0 h11)
  else none
theorem inX3_spell_X3 : ∀ w ∈ wsX30, w ∈ wsX3_spell := by decide +kernel
theorem inX3_spell_X4 : ∀ w ∈ wsX40, w ∈ wsX3_spell := by decide +kernel
theorem lkX3_spell_f15 : Cond.fieldLink RX3 15 (TX3 1).1 (TX3 1).2.1 (TX3 1).2.2.1 ∈ wsX3_spell := by decide +kernel
theorem lkX3_spell_f19 : Cond.fieldLink RX3 19 (TX4 0).1 (TX4 0).2.1 (TX4 0).2.2.1 ∈ wsX3_spell := by decide +kernel
theorem lkX3_spell_f29 : Cond.fieldLink RX3 29 (TX4 1).1 (TX4 1).2.1 (TX4 1).2.2.1 ∈ wsX3_spell := by decide +kernel
theorem ndX3_spell : yX3_spell.cls ≠ "java/lang/invoke/MethodHandle" ∧ yX3_spell.cls ≠ "java/lang/invoke/VarHandle" ∧ (parseMethodDescriptor yX3_spell.desc).map (fun d => d.parameters.length) = some 2 := by decide +kernel
set_option maxRecDepth 100000 in
set_option maxHeartbeats 4000000 in
theorem wX3_spell_27 {p : Program} {l : Launch} {e : Env} {s : State} {m : MethodId} {args : Array Value} {below : List Frame} {meth : Method} {c : Code} {G : hp_G} {h0 h' : hp_H}  (X : hp_X p s m args meth c cX3_spell 3 RX3 wsX3_spell none G)  {x0 : Nat}   {h : hp_H} {H : Heap} {locs : List Loc} {ls : Array Slot} (Y : hp_Y G h h0 s H locs) (hl : lv_has ls 3 [(0, .ref x0)]) (hF : bX3_spell_27 x0 h = some h') : W p l e rmX3_spell s m args below meth c H locs 0 0 (MQ below (va_Qv (fun u => u = h') (hp_B G h0) (hp_A h0)) args s 0 0 (hp_A h0)) (F0 m 27 ls []) := by
  unfold bX3_spell_27 at hF
  refine lv_aload_n X.1 X.2.1 dX3_spell_27 rfl (lv_at hl 0 rfl) ?_
  obtain ⟨h2, e1, hF⟩ := hp_b hF
  refine hp_cv Y (hp_runV X Y (ci := 3) (As := []) (n := 0) (T := TX3) (N := 2) (mX3_reverse l G e1) rfl (oX3_reverse e1) gX3_spell_X3_reverse rfl rfl rfl ndX3_reverse ⟨Nat.le_of_ble_eq_true rfl, Nat.le_of_ble_eq_true rfl⟩ rfl hl.1 rfl (Nat.le_of_ble_eq_true rfl) dX3_spell_28 ⟨Nat.zero_le _, Nat.zero_le _⟩) (fun H locs Y => ?_)
  cases hF
  exact hp_rv X Y rfl dX3_spell_31
theorem oX3_spell {x0 : Nat} {x1 : Nat} {x2 : Int32} {h h' : hp_H}  (hF : fX3_spell x0 x1 x2 h = some h') : hp_o h x0 3 = true := by
  unfold fX3_spell at hF
  exact (hp_ift hF).1
set_option maxRecDepth 100000 in
set_option maxHeartbeats 4000000 in
theorem mX3_spell (l : Launch) (G : hp_G) {x0 : Nat} {x1 : Nat} {x2 : Int32} {h h' : hp_H}  (hF : fX3_spell x0 x1 x2 h = some h') : Met l yX3_spell wsX3_spell rmX3_spell (va_Pc [.ref x0, .ref x1, .int x2] (hp_S G h)) (va_Qv (fun u => u = h') (hp_B G h) (hp_A h)) 0 0 (hp_A h) := by
  refine hp_met (cc := cX3_spell) (nL := 3) (ret := none) (by decide) rfl ?_
  intro p e s m below meth c X Y
  have hl := lv_entry ([.ref x0, .ref x1, .int x2]) (n := 3) (Nat.le_of_ble_eq_true rfl)
  rw [lg_entry_eq]
  generalize (lg_sl ([.ref x0, .ref x1, .int x2]) ++ List.replicate (3 - (lg_sl ([.ref x0, .ref x1, .int x2])).length) Slot.unset).toArray = ls at hl ⊢
  have hl : lv_has ls 3 [(0, .ref x0), (1, .ref x1), (2, .int x2)] := hl
  unfold fX3_spell at hF
  obtain ⟨ho, hF⟩ := hp_ift hF
  refine lv_aload_n X.1 X.2.1 dX3_spell_0 rfl (lv_at hl 0 rfl) ?_
  refine lv_iconst (v := 0) X.1 X.2.1 dX3_spell_1 (by decide) ?_
  obtain ⟨h1, e2, hF⟩ := hp_b hF
  refine hp_put X Y (C := RX3) (T := TX3) (N := 2) (ci := 3) (k := 1) (ty0 := tyX3) rfl inX3_spell_X3 tyX3_ok nmX3 (by decide) lkX3_spell_f15 rfl rfl rfl e2 dX3_spell_2 (fun H locs Y => ?_)
  refine lv_aload_n X.1 X.2.1 dX3_spell_5 rfl (lv_at hl 0 rfl) ?_
  refine lv_aload_n X.1 X.2.1 dX3_spell_6 rfl (lv_at hl 1 rfl) ?_
  obtain ⟨v3, e4, hF⟩ := hp_b hF
  refine hp_getr X Y (C := RX4) (T := TX4) (N := 2) (ci := 4) (k := 0) rfl inX3_spell_X4 (by decide) lkX3_spell_f19 e4 dX3_spell_7 ?_
  refine lv_iload_n X.1 X.2.1 dX3_spell_10 rfl (lv_at hl 2 rfl) ?_
  obtain ⟨h6, e5, hF⟩ := hp_b hF
  refine hp_cv Y (hp_runV X Y (ci := 3) (As := [.ref v3, .int x2]) (n := 2) (T := TX3) (N := 2) (mX3_appendDigitsBackwards l G e5) rfl (oX3_appendDigitsBackwards e5) gX3_spell_X3_appendDigitsBackwards rfl rfl rfl ndX3_appendDigitsBackwards ⟨Nat.le_of_ble_eq_true rfl, Nat.le_of_ble_eq_true rfl⟩ rfl hl.1 rfl (Nat.le_of_ble_eq_true rfl) dX3_spell_11 ⟨Nat.zero_le _, Nat.zero_le _⟩) (fun H locs Y => ?_)
  refine lv_aload_n X.1 X.2.1 dX3_spell_14 rfl (lv_at hl 1 rfl) ?_
  obtain ⟨v7, e8, hF⟩ := hp_b hF
  refine hp_geti X Y (C := RX4) (T := TX4) (N := 2) (ci := 4) (k := 1) rfl inX3_spell_X4 (by decide) lkX3_spell_f29 e8 dX3_spell_15 ?_
  refine lv_if_eq (tgt := 27) X.1 X.2.1 dX3_spell_18 (by decide) (fun c9 => ?_) (fun c9 => ?_)
  · have hF := hp_ifp (c9) hF
    exact wX3_spell_27 X  Y (lv_sub hl [0] rfl) hF
  · have hF := hp_ifn (c9) hF
    refine lv_aload_n X.1 X.2.1 dX3_spell_21 rfl (lv_at hl 0 rfl) ?_
    refine lv_bipush (v := 45) X.1 X.2.1 dX3_spell_22 (by decide) ?_
    obtain ⟨h11, e10, hF⟩ := hp_b hF
    refine hp_cv Y (hp_runV X Y (ci := 3) (As := [.int (45 : Int32)]) (n := 1) (T := TX3) (N := 2) (mX3_append l G e10) rfl (oX3_append e10) gX3_spell_X3_append rfl rfl rfl ndX3_append ⟨Nat.le_of_ble_eq_true rfl, Nat.le_of_ble_eq_true rfl⟩ rfl hl.1 rfl (Nat.le_of_ble_eq_true rfl) dX3_spell_24 ⟨Nat.zero_le _, Nat.zero_le _⟩) (fun H locs Y => ?_)
    exact wX3_spell_27 X  Y (lv_sub hl [0] rfl) hF

/-! WholeNumbers$Text.firstDigit -/
def rmX3_firstDigit : Room := { frames := 0, cells := 0, slots := 0, locals := 0 }
def fX3_firstDigit (x0 : Nat) (h : hp_H) : Option Int32 :=
  if hp_o h x0 3 = true then
  (hp_gi h x0 3 1).bind fun v1 =>
  if v1 ≤ 0 then (
    some (0 : Int32))
  else (
    (hp_gr h x0 3 0).bind fun v4 =>
    (hp_ai h 1 v4 (0 : Int32)).bind fun v6 =>
    if v6 = (45 : Int32) then (
      some (1 : Int32))
    else (
      some (0 : Int32)))
  else none
theorem inX3_firstDigit_X3 : ∀ w ∈ wsX30, w ∈ wsX3_firstDigit := by decide +kernel
theorem lkX3_firstDigit_f15 : Cond.fieldLink RX3 15 (TX3 1).1 (TX3 1).2.1 (TX3 1).2.2.1 ∈ wsX3_firstDigit := by decide +kernel
theorem lkX3_firstDigit_f9 : Cond.fieldLink RX3 9 (TX3 0).1 (TX3 0).2.1 (TX3 0).2.2.1 ∈ wsX3_firstDigit := by decide +kernel
theorem ndX3_firstDigit : yX3_firstDigit.cls ≠ "java/lang/invoke/MethodHandle" ∧ yX3_firstDigit.cls ≠ "java/lang/invoke/VarHandle" ∧ (parseMethodDescriptor yX3_firstDigit.desc).map (fun d => d.parameters.length) = some 0 := by decide +kernel
theorem oX3_firstDigit {x0 : Nat} {h : hp_H} {r : Int32} (hF : fX3_firstDigit x0 h = some r) : hp_o h x0 3 = true := by
  unfold fX3_firstDigit at hF
  exact (hp_ift hF).1
set_option maxRecDepth 100000 in
set_option maxHeartbeats 4000000 in
theorem mX3_firstDigit (l : Launch) (G : hp_G) {x0 : Nat} {h : hp_H} {r : Int32} (hF : fX3_firstDigit x0 h = some r) : Met l yX3_firstDigit wsX3_firstDigit rmX3_firstDigit (va_Pc [.ref x0] (hp_S G h)) (va_Qi (fun r' u => r' = r ∧ u = h) (hp_B G h) (hp_A h)) 0 0 (hp_A h) := by
  refine hp_met (cc := cX3_firstDigit) (nL := 1) (ret := (some .int)) (by decide) rfl ?_
  intro p e s m below meth c X Y
  have hl := lv_entry ([.ref x0]) (n := 1) (Nat.le_of_ble_eq_true rfl)
  rw [lg_entry_eq]
  generalize (lg_sl ([.ref x0]) ++ List.replicate (1 - (lg_sl ([.ref x0])).length) Slot.unset).toArray = ls at hl ⊢
  have hl : lv_has ls 1 [(0, .ref x0)] := hl
  unfold fX3_firstDigit at hF
  obtain ⟨ho, hF⟩ := hp_ift hF
  refine lv_aload_n X.1 X.2.1 dX3_firstDigit_0 rfl (lv_at hl 0 rfl) ?_
  obtain ⟨v1, e2, hF⟩ := hp_b hF
  refine hp_geti X Y (C := RX3) (T := TX3) (N := 2) (ci := 3) (k := 1) rfl inX3_firstDigit_X3 (by decide) lkX3_firstDigit_f15 e2 dX3_firstDigit_1 ?_
  refine lv_if_le (tgt := 22) X.1 X.2.1 dX3_firstDigit_4 (by decide) (fun c3 => ?_) (fun c3 => ?_)
  · have hF := hp_ifp (c3) hF
    refine lv_iconst (v := 0) X.1 X.2.1 dX3_firstDigit_22 (by decide) ?_
    cases hF
    exact hp_ri X Y rfl rfl dX3_firstDigit_23
  · have hF := hp_ifn (c3) hF
    refine lv_aload_n X.1 X.2.1 dX3_firstDigit_7 rfl (lv_at hl 0 rfl) ?_
    obtain ⟨v4, e5, hF⟩ := hp_b hF
    refine hp_getr X Y (C := RX3) (T := TX3) (N := 2) (ci := 3) (k := 0) rfl inX3_firstDigit_X3 (by decide) lkX3_firstDigit_f9 e5 dX3_firstDigit_8 ?_
    refine lv_iconst (v := 0) X.1 X.2.1 dX3_firstDigit_11 (by decide) ?_
    obtain ⟨v6, e7, hF⟩ := hp_b hF
    refine hp_cald X Y e7 dX3_firstDigit_12 ?_
    refine lv_bipush (v := 45) X.1 X.2.1 dX3_firstDigit_13 (by decide) ?_
    refine lv_icmp_ne (tgt := 22) X.1 X.2.1 dX3_firstDigit_15 (by decide) (fun c8 => ?_) (fun c8 => ?_)
    · have hF := hp_ifn (c8) hF
      refine lv_iconst (v := 0) X.1 X.2.1 dX3_firstDigit_22 (by decide) ?_
      cases hF
      exact hp_ri X Y rfl rfl dX3_firstDigit_23
    · have hF := hp_ifp (c8) hF
      refine lv_iconst (v := 1) X.1 X.2.1 dX3_firstDigit_18 (by decide) ?_
      refine lv_goto (tgt := 23) X.1 X.2.1 dX3_firstDigit_19 (by decide) ?_
      cases hF
      exact hp_ri X Y rfl rfl dX3_firstDigit_23

/-! WholeNumbers$Text.digitOf -/
def rmX3_digitOf : Room := { frames := 0, cells := 0, slots := 0, locals := 0 }
def bX3_digitOf_37  (x0 : Int32)  : Option Int32 :=
  if x0 < (65 : Int32) then (
    some (-1 : Int32))
  else (
    if (70 : Int32) < x0 then (
      some (-1 : Int32))
    else (
      some ((x0 - (65 : Int32)) + (10 : Int32))))
def bX3_digitOf_17  (x0 : Int32)  : Option Int32 :=
  if x0 < (97 : Int32) then (
    bX3_digitOf_37 x0)
  else (
    if (102 : Int32) < x0 then (
      bX3_digitOf_37 x0)
    else (
      some ((x0 - (97 : Int32)) + (10 : Int32))))
def fX3_digitOf (x0 : Int32) : Option Int32 :=
  if x0 < (48 : Int32) then (
    bX3_digitOf_17 x0)
  else (
    if (57 : Int32) < x0 then (
      bX3_digitOf_17 x0)
    else (
      some (x0 - (48 : Int32))))
theorem ndX3_digitOf : yX3_digitOf.cls ≠ "java/lang/invoke/MethodHandle" ∧ yX3_digitOf.cls ≠ "java/lang/invoke/VarHandle" ∧ (parseMethodDescriptor yX3_digitOf.desc).map (fun d => d.parameters.length) = some 1 := by decide +kernel
set_option maxRecDepth 100000 in
set_option maxHeartbeats 4000000 in
theorem wX3_digitOf_37 {p : Program} {l : Launch} {e : Env} {s : State} {m : MethodId} {args : Array Value} {below : List Frame} {meth : Method} {c : Code} {G : hp_G} {h0 : hp_H} {r : Int32} (X : hp_X p s m args meth c cX3_digitOf 1 RX3 wsX3_digitOf (some .int) G)  {x0 : Int32}    {H : Heap} {locs : List Loc} {ls : Array Slot} (Y : hp_Y G h0 h0 s H locs) (hl : lv_has ls 1 [(0, .int x0)]) (hF : bX3_digitOf_37 x0 = some r) : W p l e rmX3_digitOf s m args below meth c H locs 0 0 (MQ below (va_Qi (fun r' u => r' = r ∧ u = h0) (hp_B G h0) (hp_A h0)) args s 0 0 (hp_A h0)) (F0 m 37 ls []) := by
  unfold bX3_digitOf_37 at hF
  refine lv_iload_n X.1 X.2.1 dX3_digitOf_37 rfl (lv_at hl 0 rfl) ?_
  refine lv_bipush (v := 65) X.1 X.2.1 dX3_digitOf_38 (by decide) ?_
  refine lv_icmp_lt (tgt := 57) X.1 X.2.1 dX3_digitOf_40 (by decide) (fun c1 => ?_) (fun c1 => ?_)
  · have hF := hp_ifp (c1) hF
    refine lv_iconst (v := -1) X.1 X.2.1 dX3_digitOf_57 (by decide) ?_
    cases hF
    exact hp_ri X Y rfl rfl dX3_digitOf_58
  · have hF := hp_ifn (c1) hF
    refine lv_iload_n X.1 X.2.1 dX3_digitOf_43 rfl (lv_at hl 0 rfl) ?_
    refine lv_bipush (v := 70) X.1 X.2.1 dX3_digitOf_44 (by decide) ?_
    refine lv_icmp_gt (tgt := 57) X.1 X.2.1 dX3_digitOf_46 (by decide) (fun c2 => ?_) (fun c2 => ?_)
    · have hF := hp_ifp (c2) hF
      refine lv_iconst (v := -1) X.1 X.2.1 dX3_digitOf_57 (by decide) ?_
      cases hF
      exact hp_ri X Y rfl rfl dX3_digitOf_58
    · have hF := hp_ifn (c2) hF
      refine lv_iload_n X.1 X.2.1 dX3_digitOf_49 rfl (lv_at hl 0 rfl) ?_
      refine lv_bipush (v := 65) X.1 X.2.1 dX3_digitOf_50 (by decide) ?_
      refine lv_isub X.1 X.2.1 dX3_digitOf_52 ?_
      refine lv_bipush (v := 10) X.1 X.2.1 dX3_digitOf_53 (by decide) ?_
      refine lv_iadd X.1 X.2.1 dX3_digitOf_55 ?_
      cases hF
      exact hp_ri X Y rfl rfl dX3_digitOf_56
set_option maxRecDepth 100000 in
set_option maxHeartbeats 4000000 in
theorem wX3_digitOf_17 {p : Program} {l : Launch} {e : Env} {s : State} {m : MethodId} {args : Array Value} {below : List Frame} {meth : Method} {c : Code} {G : hp_G} {h0 : hp_H} {r : Int32} (X : hp_X p s m args meth c cX3_digitOf 1 RX3 wsX3_digitOf (some .int) G)  {x0 : Int32}    {H : Heap} {locs : List Loc} {ls : Array Slot} (Y : hp_Y G h0 h0 s H locs) (hl : lv_has ls 1 [(0, .int x0)]) (hF : bX3_digitOf_17 x0 = some r) : W p l e rmX3_digitOf s m args below meth c H locs 0 0 (MQ below (va_Qi (fun r' u => r' = r ∧ u = h0) (hp_B G h0) (hp_A h0)) args s 0 0 (hp_A h0)) (F0 m 17 ls []) := by
  unfold bX3_digitOf_17 at hF
  refine lv_iload_n X.1 X.2.1 dX3_digitOf_17 rfl (lv_at hl 0 rfl) ?_
  refine lv_bipush (v := 97) X.1 X.2.1 dX3_digitOf_18 (by decide) ?_
  refine lv_icmp_lt (tgt := 37) X.1 X.2.1 dX3_digitOf_20 (by decide) (fun c1 => ?_) (fun c1 => ?_)
  · have hF := hp_ifp (c1) hF
    exact wX3_digitOf_37 X  Y (lv_sub hl [0] rfl) hF
  · have hF := hp_ifn (c1) hF
    refine lv_iload_n X.1 X.2.1 dX3_digitOf_23 rfl (lv_at hl 0 rfl) ?_
    refine lv_bipush (v := 102) X.1 X.2.1 dX3_digitOf_24 (by decide) ?_
    refine lv_icmp_gt (tgt := 37) X.1 X.2.1 dX3_digitOf_26 (by decide) (fun c2 => ?_) (fun c2 => ?_)
    · have hF := hp_ifp (c2) hF
      exact wX3_digitOf_37 X  Y (lv_sub hl [0] rfl) hF
    · have hF := hp_ifn (c2) hF
      refine lv_iload_n X.1 X.2.1 dX3_digitOf_29 rfl (lv_at hl 0 rfl) ?_
      refine lv_bipush (v := 97) X.1 X.2.1 dX3_digitOf_30 (by decide) ?_
      refine lv_isub X.1 X.2.1 dX3_digitOf_32 ?_
      refine lv_bipush (v := 10) X.1 X.2.1 dX3_digitOf_33 (by decide) ?_
      refine lv_iadd X.1 X.2.1 dX3_digitOf_35 ?_
      cases hF
      exact hp_ri X Y rfl rfl dX3_digitOf_36
set_option maxRecDepth 100000 in
set_option maxHeartbeats 4000000 in
theorem mX3_digitOf (l : Launch) (G : hp_G) {x0 : Int32} {h : hp_H} {r : Int32} (hF : fX3_digitOf x0 = some r) : Met l yX3_digitOf wsX3_digitOf rmX3_digitOf (va_Pc [.int x0] (hp_S G h)) (va_Qi (fun r' u => r' = r ∧ u = h) (hp_B G h) (hp_A h)) 0 0 (hp_A h) := by
  refine hp_met (cc := cX3_digitOf) (nL := 1) (ret := (some .int)) (by decide) rfl ?_
  intro p e s m below meth c X Y
  have hl := lv_entry ([.int x0]) (n := 1) (Nat.le_of_ble_eq_true rfl)
  rw [lg_entry_eq]
  generalize (lg_sl ([.int x0]) ++ List.replicate (1 - (lg_sl ([.int x0])).length) Slot.unset).toArray = ls at hl ⊢
  have hl : lv_has ls 1 [(0, .int x0)] := hl
  unfold fX3_digitOf at hF
  refine lv_iload_n X.1 X.2.1 dX3_digitOf_0 rfl (lv_at hl 0 rfl) ?_
  refine lv_bipush (v := 48) X.1 X.2.1 dX3_digitOf_1 (by decide) ?_
  refine lv_icmp_lt (tgt := 17) X.1 X.2.1 dX3_digitOf_3 (by decide) (fun c1 => ?_) (fun c1 => ?_)
  · have hF := hp_ifp (c1) hF
    exact wX3_digitOf_17 X  Y (lv_sub hl [0] rfl) hF
  · have hF := hp_ifn (c1) hF
    refine lv_iload_n X.1 X.2.1 dX3_digitOf_6 rfl (lv_at hl 0 rfl) ?_
    refine lv_bipush (v := 57) X.1 X.2.1 dX3_digitOf_7 (by decide) ?_
    refine lv_icmp_gt (tgt := 17) X.1 X.2.1 dX3_digitOf_9 (by decide) (fun c2 => ?_) (fun c2 => ?_)
    · have hF := hp_ifp (c2) hF
      exact wX3_digitOf_17 X  Y (lv_sub hl [0] rfl) hF
    · have hF := hp_ifn (c2) hF
      refine lv_iload_n X.1 X.2.1 dX3_digitOf_12 rfl (lv_at hl 0 rfl) ?_
      refine lv_bipush (v := 48) X.1 X.2.1 dX3_digitOf_13 (by decide) ?_
      refine lv_isub X.1 X.2.1 dX3_digitOf_15 ?_
      cases hF
      exact hp_ri X Y rfl rfl dX3_digitOf_16

/-! WholeNumbers$Text.tellsNumber -/
def rmX3_tellsNumber : Room := { frames := 1, cells := 0, slots := 0, locals := 20 }
def bX3_tellsNumber_7  (x0 : Nat) (x1 : Int32) (x2 : Int32) (h : hp_H) : Nat → Int32 → Option Int32
  | 0, _ => none
  | n + 1, x3 =>
  (hp_gi h x0 3 1).bind fun v1 =>
  if v1 ≤ x3 then (
    (hp_gi h x0 3 1).bind fun v4 =>
    if v4 ≤ x2 then (
      some (0 : Int32))
    else (
      some (1 : Int32)))
  else (
    (hp_gr h x0 3 0).bind fun v7 =>
    (hp_ai h 1 v7 x3).bind fun v9 =>
    (fX3_digitOf v9).bind fun v12 =>
    if v12 < 0 then (
      some (0 : Int32))
    else (
      if v12 < x1 then (
        (some (x3 + (1 : Int32))).bind fun v15 =>
        bX3_tellsNumber_7 x0 x1 x2 h n v15)
      else (
        some (0 : Int32))))
def fX3_tellsNumber (x0 : Nat) (x1 : Int32) (h : hp_H) : Option Int32 :=
  if hp_o h x0 3 = true then
  (fX3_firstDigit x0 h).bind fun v2 =>
  bX3_tellsNumber_7 x0 x1 v2 h hp_n v2
  else none
theorem inX3_tellsNumber_X3 : ∀ w ∈ wsX30, w ∈ wsX3_tellsNumber := by decide +kernel
theorem lkX3_tellsNumber_f15 : Cond.fieldLink RX3 15 (TX3 1).1 (TX3 1).2.1 (TX3 1).2.2.1 ∈ wsX3_tellsNumber := by decide +kernel
theorem lkX3_tellsNumber_f9 : Cond.fieldLink RX3 9 (TX3 0).1 (TX3 0).2.1 (TX3 0).2.2.1 ∈ wsX3_tellsNumber := by decide +kernel
theorem ndX3_tellsNumber : yX3_tellsNumber.cls ≠ "java/lang/invoke/MethodHandle" ∧ yX3_tellsNumber.cls ≠ "java/lang/invoke/VarHandle" ∧ (parseMethodDescriptor yX3_tellsNumber.desc).map (fun d => d.parameters.length) = some 1 := by decide +kernel
set_option maxRecDepth 100000 in
set_option maxHeartbeats 4000000 in
theorem wX3_tellsNumber_7 {p : Program} {l : Launch} {e : Env} {s : State} {m : MethodId} {args : Array Value} {below : List Frame} {meth : Method} {c : Code} {G : hp_G} {h0 : hp_H} {r : Int32} (X : hp_X p s m args meth c cX3_tellsNumber 5 RX3 wsX3_tellsNumber (some .boolean) G)  {x0 : Nat} {x1 : Int32} {x2 : Int32}   : ∀ (n : Nat) {x3 : Int32} {H : Heap} {locs : List Loc} {ls : Array Slot} (Y : hp_Y G h0 h0 s H locs) (hl : lv_has ls 5 [(0, .ref x0), (1, .int x1), (2, .int x2), (3, .int x3)]) (hF : bX3_tellsNumber_7 x0 x1 x2 h0 n x3 = some r), W p l e rmX3_tellsNumber s m args below meth c H locs 0 0 (MQ below (va_Qi (fun r' u => r' = r ∧ u = h0) (hp_B G h0) (hp_A h0)) args s 0 0 (hp_A h0)) (F0 m 7 ls []) := by
  intro n
  induction n with
  | zero =>
    intro x3 H locs ls Y hl hF
    exact absurd (show none = some _ from hF) (by simp)
  | succ n ih =>
    intro x3 H locs ls Y hl hF
    rw [bX3_tellsNumber_7] at hF
    refine lv_iload_n X.1 X.2.1 dX3_tellsNumber_7 rfl (lv_at hl 3 rfl) ?_
    refine lv_aload_n X.1 X.2.1 dX3_tellsNumber_8 rfl (lv_at hl 0 rfl) ?_
    obtain ⟨v1, e2, hF⟩ := hp_b hF
    refine hp_geti X Y (C := RX3) (T := TX3) (N := 2) (ci := 3) (k := 1) rfl inX3_tellsNumber_X3 (by decide) lkX3_tellsNumber_f15 e2 dX3_tellsNumber_9 ?_
    refine lv_icmp_ge (tgt := 45) X.1 X.2.1 dX3_tellsNumber_12 (by decide) (fun c3 => ?_) (fun c3 => ?_)
    · have hF := hp_ifp (c3) hF
      refine lv_aload_n X.1 X.2.1 dX3_tellsNumber_45 rfl (lv_at hl 0 rfl) ?_
      obtain ⟨v4, e5, hF⟩ := hp_b hF
      refine hp_geti X Y (C := RX3) (T := TX3) (N := 2) (ci := 3) (k := 1) rfl inX3_tellsNumber_X3 (by decide) lkX3_tellsNumber_f15 e5 dX3_tellsNumber_46 ?_
      refine lv_iload_n X.1 X.2.1 dX3_tellsNumber_49 rfl (lv_at hl 2 rfl) ?_
      refine lv_icmp_le (tgt := 57) X.1 X.2.1 dX3_tellsNumber_50 (by decide) (fun c6 => ?_) (fun c6 => ?_)
      · have hF := hp_ifp (c6) hF
        refine lv_iconst (v := 0) X.1 X.2.1 dX3_tellsNumber_57 (by decide) ?_
        cases hF
        exact hp_ri X Y rfl rfl dX3_tellsNumber_58
      · have hF := hp_ifn (c6) hF
        refine lv_iconst (v := 1) X.1 X.2.1 dX3_tellsNumber_53 (by decide) ?_
        refine lv_goto (tgt := 58) X.1 X.2.1 dX3_tellsNumber_54 (by decide) ?_
        cases hF
        exact hp_ri X Y rfl rfl dX3_tellsNumber_58
    · have hF := hp_ifn (c3) hF
      refine lv_aload_n X.1 X.2.1 dX3_tellsNumber_15 rfl (lv_at hl 0 rfl) ?_
      obtain ⟨v7, e8, hF⟩ := hp_b hF
      refine hp_getr X Y (C := RX3) (T := TX3) (N := 2) (ci := 3) (k := 0) rfl inX3_tellsNumber_X3 (by decide) lkX3_tellsNumber_f9 e8 dX3_tellsNumber_16 ?_
      refine lv_iload_n X.1 X.2.1 dX3_tellsNumber_19 rfl (lv_at hl 3 rfl) ?_
      obtain ⟨v9, e10, hF⟩ := hp_b hF
      refine hp_cald X Y e10 dX3_tellsNumber_20 ?_
      obtain ⟨v12, e11, hF⟩ := hp_b hF
      refine hp_ci Y (hp_runS X Y (As := [.int v9]) (n := 1) (mX3_digitOf l G e11) gX3_tellsNumber_X3_digitOf rfl rfl rfl ndX3_digitOf ⟨Nat.le_of_ble_eq_true rfl, Nat.le_of_ble_eq_true rfl⟩ rfl hl.1 rfl (Nat.le_of_ble_eq_true rfl) dX3_tellsNumber_21 ⟨Nat.zero_le _, Nat.zero_le _⟩) (fun H locs Y => ?_)
      refine lv_istore (lv' := [(4, .int v12), (0, .ref x0), (1, .int x1), (2, .int x2), (3, .int x3)]) X.1 X.2.1 dX3_tellsNumber_24 hl (by decide) rfl (fun ls hl => ?_)
      refine lv_iload X.1 X.2.1 dX3_tellsNumber_26 (lv_at hl 0 rfl) ?_
      refine lv_if_lt (tgt := 37) X.1 X.2.1 dX3_tellsNumber_28 (by decide) (fun c13 => ?_) (fun c13 => ?_)
      · have hF := hp_ifp (c13) hF
        refine lv_iconst (v := 0) X.1 X.2.1 dX3_tellsNumber_37 (by decide) ?_
        cases hF
        exact hp_ri X Y rfl rfl dX3_tellsNumber_38
      · have hF := hp_ifn (c13) hF
        refine lv_iload X.1 X.2.1 dX3_tellsNumber_31 (lv_at hl 0 rfl) ?_
        refine lv_iload_n X.1 X.2.1 dX3_tellsNumber_33 rfl (lv_at hl 2 rfl) ?_
        refine lv_icmp_lt (tgt := 39) X.1 X.2.1 dX3_tellsNumber_34 (by decide) (fun c14 => ?_) (fun c14 => ?_)
        · have hF := hp_ifp (c14) hF
          obtain ⟨v15, e16, hF⟩ := hp_b hF
          refine lv_iinc (v := v15) (lv' := [(3, .int v15), (4, .int v12), (0, .ref x0), (1, .int x1), (2, .int x2)]) X.1 X.2.1 dX3_tellsNumber_39 hl (k := 4) rfl (Option.some.inj e16) (by decide) rfl (fun ls hl => ?_)
          refine lv_goto (tgt := 7) X.1 X.2.1 dX3_tellsNumber_42 (by decide) ?_
          exact ih Y (lv_sub hl [2, 3, 4, 0] rfl) hF
        · have hF := hp_ifn (c14) hF
          refine lv_iconst (v := 0) X.1 X.2.1 dX3_tellsNumber_37 (by decide) ?_
          cases hF
          exact hp_ri X Y rfl rfl dX3_tellsNumber_38
theorem oX3_tellsNumber {x0 : Nat} {x1 : Int32} {h : hp_H} {r : Int32} (hF : fX3_tellsNumber x0 x1 h = some r) : hp_o h x0 3 = true := by
  unfold fX3_tellsNumber at hF
  exact (hp_ift hF).1
set_option maxRecDepth 100000 in
set_option maxHeartbeats 4000000 in
theorem mX3_tellsNumber (l : Launch) (G : hp_G) {x0 : Nat} {x1 : Int32} {h : hp_H} {r : Int32} (hF : fX3_tellsNumber x0 x1 h = some r) : Met l yX3_tellsNumber wsX3_tellsNumber rmX3_tellsNumber (va_Pc [.ref x0, .int x1] (hp_S G h)) (va_Qi (fun r' u => r' = r ∧ u = h) (hp_B G h) (hp_A h)) 0 0 (hp_A h) := by
  refine hp_met (cc := cX3_tellsNumber) (nL := 5) (ret := (some .boolean)) (by decide) rfl ?_
  intro p e s m below meth c X Y
  have hl := lv_entry ([.ref x0, .int x1]) (n := 5) (Nat.le_of_ble_eq_true rfl)
  rw [lg_entry_eq]
  generalize (lg_sl ([.ref x0, .int x1]) ++ List.replicate (5 - (lg_sl ([.ref x0, .int x1])).length) Slot.unset).toArray = ls at hl ⊢
  have hl : lv_has ls 5 [(0, .ref x0), (1, .int x1)] := hl
  unfold fX3_tellsNumber at hF
  obtain ⟨ho, hF⟩ := hp_ift hF
  refine lv_aload_n X.1 X.2.1 dX3_tellsNumber_0 rfl (lv_at hl 0 rfl) ?_
  obtain ⟨v2, e1, hF⟩ := hp_b hF
  refine hp_ci Y (hp_runV X Y (ci := 3) (As := []) (n := 0) (T := TX3) (N := 2) (mX3_firstDigit l G e1) rfl (oX3_firstDigit e1) gX3_tellsNumber_X3_firstDigit rfl rfl rfl ndX3_firstDigit ⟨Nat.le_of_ble_eq_true rfl, Nat.le_of_ble_eq_true rfl⟩ rfl hl.1 rfl (Nat.le_of_ble_eq_true rfl) dX3_tellsNumber_1 ⟨Nat.zero_le _, Nat.zero_le _⟩) (fun H locs Y => ?_)
  refine lv_istore_n (lv' := [(2, .int v2), (0, .ref x0), (1, .int x1)]) X.1 X.2.1 dX3_tellsNumber_4 rfl hl (by decide) rfl (fun ls hl => ?_)
  refine lv_iload_n X.1 X.2.1 dX3_tellsNumber_5 rfl (lv_at hl 0 rfl) ?_
  refine lv_istore_n (lv' := [(3, .int v2), (2, .int v2), (0, .ref x0), (1, .int x1)]) X.1 X.2.1 dX3_tellsNumber_6 rfl hl (by decide) rfl (fun ls hl => ?_)
  exact wX3_tellsNumber_7 X  hp_n Y (lv_sub hl [2, 3, 1, 0] rfl) hF

/-! WholeNumbers$Text.pieceBetween -/
def rmX3_pieceBetween : Room := { frames := 1, cells := 0, slots := 0, locals := 20 }
def bX3_pieceBetween_6  (x0 : Nat) (x2 : Int32) (x3 : Int32) (h : hp_H) : Nat → Int32 → Int32 → Option Int32
  | 0, _, _ => none
  | n + 1, x4, x5 =>
  if x2 ≤ x5 then (
    some x4)
  else (
    (hp_gr h x0 3 0).bind fun v2 =>
    (hp_ai h 1 v2 x5).bind fun v4 =>
    (fX3_digitOf v4).bind fun v7 =>
    (some ((x4 * x3) + v7)).bind fun v8 =>
    (some (x5 + (1 : Int32))).bind fun v10 =>
    bX3_pieceBetween_6 x0 x2 x3 h n v8 v10)
def fX3_pieceBetween (x0 : Nat) (x1 : Int32) (x2 : Int32) (x3 : Int32) (h : hp_H) : Option Int32 :=
  if hp_o h x0 3 = true then
  bX3_pieceBetween_6 x0 x2 x3 h hp_n (0 : Int32) x1
  else none
theorem inX3_pieceBetween_X3 : ∀ w ∈ wsX30, w ∈ wsX3_pieceBetween := by decide +kernel
theorem lkX3_pieceBetween_f9 : Cond.fieldLink RX3 9 (TX3 0).1 (TX3 0).2.1 (TX3 0).2.2.1 ∈ wsX3_pieceBetween := by decide +kernel
theorem ndX3_pieceBetween : yX3_pieceBetween.cls ≠ "java/lang/invoke/MethodHandle" ∧ yX3_pieceBetween.cls ≠ "java/lang/invoke/VarHandle" ∧ (parseMethodDescriptor yX3_pieceBetween.desc).map (fun d => d.parameters.length) = some 3 := by decide +kernel
set_option maxRecDepth 100000 in
set_option maxHeartbeats 4000000 in
theorem wX3_pieceBetween_6 {p : Program} {l : Launch} {e : Env} {s : State} {m : MethodId} {args : Array Value} {below : List Frame} {meth : Method} {c : Code} {G : hp_G} {h0 : hp_H} {r : Int32} (X : hp_X p s m args meth c cX3_pieceBetween 6 RX3 wsX3_pieceBetween (some .int) G)  {x0 : Nat} {x2 : Int32} {x3 : Int32}   : ∀ (n : Nat) {x4 : Int32} {x5 : Int32} {H : Heap} {locs : List Loc} {ls : Array Slot} (Y : hp_Y G h0 h0 s H locs) (hl : lv_has ls 6 [(0, .ref x0), (2, .int x2), (3, .int x3), (4, .int x4), (5, .int x5)]) (hF : bX3_pieceBetween_6 x0 x2 x3 h0 n x4 x5 = some r), W p l e rmX3_pieceBetween s m args below meth c H locs 0 0 (MQ below (va_Qi (fun r' u => r' = r ∧ u = h0) (hp_B G h0) (hp_A h0)) args s 0 0 (hp_A h0)) (F0 m 6 ls []) := by
  intro n
  induction n with
  | zero =>
    intro x4 x5 H locs ls Y hl hF
    exact absurd (show none = some _ from hF) (by simp)
  | succ n ih =>
    intro x4 x5 H locs ls Y hl hF
    rw [bX3_pieceBetween_6] at hF
    refine lv_iload X.1 X.2.1 dX3_pieceBetween_6 (lv_at hl 4 rfl) ?_
    refine lv_iload_n X.1 X.2.1 dX3_pieceBetween_8 rfl (lv_at hl 1 rfl) ?_
    refine lv_icmp_ge (tgt := 35) X.1 X.2.1 dX3_pieceBetween_9 (by decide) (fun c1 => ?_) (fun c1 => ?_)
    · have hF := hp_ifp (c1) hF
      refine lv_iload X.1 X.2.1 dX3_pieceBetween_35 (lv_at hl 3 rfl) ?_
      cases hF
      exact hp_ri X Y rfl rfl dX3_pieceBetween_37
    · have hF := hp_ifn (c1) hF
      refine lv_iload X.1 X.2.1 dX3_pieceBetween_12 (lv_at hl 3 rfl) ?_
      refine lv_iload_n X.1 X.2.1 dX3_pieceBetween_14 rfl (lv_at hl 2 rfl) ?_
      refine lv_imul X.1 X.2.1 dX3_pieceBetween_15 ?_
      refine lv_aload_n X.1 X.2.1 dX3_pieceBetween_16 rfl (lv_at hl 0 rfl) ?_
      obtain ⟨v2, e3, hF⟩ := hp_b hF
      refine hp_getr X Y (C := RX3) (T := TX3) (N := 2) (ci := 3) (k := 0) rfl inX3_pieceBetween_X3 (by decide) lkX3_pieceBetween_f9 e3 dX3_pieceBetween_17 ?_
      refine lv_iload X.1 X.2.1 dX3_pieceBetween_20 (lv_at hl 4 rfl) ?_
      obtain ⟨v4, e5, hF⟩ := hp_b hF
      refine hp_cald X Y e5 dX3_pieceBetween_22 ?_
      obtain ⟨v7, e6, hF⟩ := hp_b hF
      refine hp_ci Y (hp_runS X Y (As := [.int v4]) (n := 1) (mX3_digitOf l G e6) gX3_pieceBetween_X3_digitOf rfl rfl rfl ndX3_digitOf ⟨Nat.le_of_ble_eq_true rfl, Nat.le_of_ble_eq_true rfl⟩ rfl hl.1 rfl (Nat.le_of_ble_eq_true rfl) dX3_pieceBetween_23 ⟨Nat.zero_le _, Nat.zero_le _⟩) (fun H locs Y => ?_)
      refine lv_iadd X.1 X.2.1 dX3_pieceBetween_26 ?_
      obtain ⟨v8, e9, hF⟩ := hp_b hF
      refine hp_ti (Option.some.inj e9) ?_
      refine lv_istore (lv' := [(4, .int v8), (0, .ref x0), (2, .int x2), (3, .int x3), (5, .int x5)]) X.1 X.2.1 dX3_pieceBetween_27 hl (by decide) rfl (fun ls hl => ?_)
      obtain ⟨v10, e11, hF⟩ := hp_b hF
      refine lv_iinc (v := v10) (lv' := [(5, .int v10), (4, .int v8), (0, .ref x0), (2, .int x2), (3, .int x3)]) X.1 X.2.1 dX3_pieceBetween_29 hl (k := 4) rfl (Option.some.inj e11) (by decide) rfl (fun ls hl => ?_)
      refine lv_goto (tgt := 6) X.1 X.2.1 dX3_pieceBetween_32 (by decide) ?_
      exact ih Y (lv_sub hl [2, 3, 4, 1, 0] rfl) hF
theorem oX3_pieceBetween {x0 : Nat} {x1 : Int32} {x2 : Int32} {x3 : Int32} {h : hp_H} {r : Int32} (hF : fX3_pieceBetween x0 x1 x2 x3 h = some r) : hp_o h x0 3 = true := by
  unfold fX3_pieceBetween at hF
  exact (hp_ift hF).1
set_option maxRecDepth 100000 in
set_option maxHeartbeats 4000000 in
theorem mX3_pieceBetween (l : Launch) (G : hp_G) {x0 : Nat} {x1 : Int32} {x2 : Int32} {x3 : Int32} {h : hp_H} {r : Int32} (hF : fX3_pieceBetween x0 x1 x2 x3 h = some r) : Met l yX3_pieceBetween wsX3_pieceBetween rmX3_pieceBetween (va_Pc [.ref x0, .int x1, .int x2, .int x3] (hp_S G h)) (va_Qi (fun r' u => r' = r ∧ u = h) (hp_B G h) (hp_A h)) 0 0 (hp_A h) := by
  refine hp_met (cc := cX3_pieceBetween) (nL := 6) (ret := (some .int)) (by decide) rfl ?_
  intro p e s m below meth c X Y
  have hl := lv_entry ([.ref x0, .int x1, .int x2, .int x3]) (n := 6) (Nat.le_of_ble_eq_true rfl)
  rw [lg_entry_eq]
  generalize (lg_sl ([.ref x0, .int x1, .int x2, .int x3]) ++ List.replicate (6 - (lg_sl ([.ref x0, .int x1, .int x2, .int x3])).length) Slot.unset).toArray = ls at hl ⊢
  have hl : lv_has ls 6 [(0, .ref x0), (1, .int x1), (2, .int x2), (3, .int x3)] := hl
  unfold fX3_pieceBetween at hF
  obtain ⟨ho, hF⟩ := hp_ift hF
  refine lv_iconst (v := 0) X.1 X.2.1 dX3_pieceBetween_0 (by decide) ?_
  refine lv_istore (lv' := [(4, .int (0 : Int32)), (0, .ref x0), (1, .int x1), (2, .int x2), (3, .int x3)]) X.1 X.2.1 dX3_pieceBetween_1 hl (by decide) rfl (fun ls hl => ?_)
  refine lv_iload_n X.1 X.2.1 dX3_pieceBetween_3 rfl (lv_at hl 2 rfl) ?_
  refine lv_istore (lv' := [(5, .int x1), (4, .int (0 : Int32)), (0, .ref x0), (1, .int x1), (2, .int x2), (3, .int x3)]) X.1 X.2.1 dX3_pieceBetween_4 hl (by decide) rfl (fun ls hl => ?_)
  exact wX3_pieceBetween_6 X  hp_n Y (lv_sub hl [2, 4, 5, 1, 0] rfl) hF

/-! WholeNumbers$Text.tell -/
def rmX3_tell : Room := { frames := 4, cells := 0, slots := 0, locals := 87 }
def bX3_tell_105   (t0 : Nat) (t1 : Int32) (h : hp_H) : Option hp_H :=
  (fX4_takeSign t0 t1 h).bind fun h2 =>
  some h2
def bX3_tell_93  (x1 : Nat) (x4 : Int32)  (h : hp_H) : Option hp_H :=
  if x4 = (1 : Int32) then (
    bX3_tell_105 x1 (1 : Int32) h)
  else (
    bX3_tell_105 x1 (0 : Int32) h)
def bX3_tell_24  (x0 : Nat) (x1 : Nat) (x2 : Int32) (x3 : Int32) (x4 : Int32) : Nat → Int32 → hp_H → Option hp_H
  | 0, _, _ => none
  | n + 1, x5, h =>
  (hp_gi h x0 3 1).bind fun v1 =>
  if v1 ≤ x5 then (
    bX3_tell_93 x1 x4 h)
  else (
    (hp_gr h x1 4 0).bind fun v4 =>
    (fX2_bitLength v4 h).bind fun v7 =>
    if (4096 : Int32) < v7 then (
      bX3_tell_93 x1 x4 h)
    else (
      (hp_gi h x0 3 1).bind fun v9 =>
      (some (hp_min (x5 + x3) v9)).bind fun v11 =>
      (hp_gr h x1 4 0).bind fun v13 =>
      (fX3_powerOf x2 (v11 - x5)).bind fun v16 =>
      (fX3_pieceBetween x0 x5 v11 x2 h).bind fun v18 =>
      (fX2_timesPlus v13 v16 v18 h).bind fun h20 =>
      (some (x5 + x3)).bind fun v21 =>
      bX3_tell_24 x0 x1 x2 x3 x4 n v21 h20))
def fX3_tell (x0 : Nat) (x1 : Nat) (x2 : Int32) (h : hp_H) : Option hp_H :=
  if hp_o h x0 3 = true then
  (fX4_takeLong x1 (0 : Int64) h).bind fun h2 =>
  (fX3_digitsInLimb x2).bind fun v4 =>
  (some (hp_max v4 (1 : Int32))).bind fun v5 =>
  (fX3_firstDigit x0 h2).bind fun v8 =>
  bX3_tell_24 x0 x1 x2 v5 v8 hp_n v8 h2
  else none
theorem inX3_tell_X3 : ∀ w ∈ wsX30, w ∈ wsX3_tell := by decide +kernel
theorem inX3_tell_X4 : ∀ w ∈ wsX40, w ∈ wsX3_tell := by decide +kernel
theorem lkX3_tell_f15 : Cond.fieldLink RX3 15 (TX3 1).1 (TX3 1).2.1 (TX3 1).2.2.1 ∈ wsX3_tell := by decide +kernel
theorem lkX3_tell_f19 : Cond.fieldLink RX3 19 (TX4 0).1 (TX4 0).2.1 (TX4 0).2.2.1 ∈ wsX3_tell := by decide +kernel
theorem lkX3_tell_m81 : Cond.methodLink RX3 81 Lib.Math.min.name ∈ wsX3_tell := by decide +kernel
theorem lkX3_tell_ms_min : Cond.static Lib.Math.min.name ∈ wsX3_tell := by decide +kernel
theorem lkX3_tell_mi : Cond.initialized "java/lang/Math" ∈ wsX3_tell := by decide +kernel
theorem lkX3_tell_mc_min : Cond.code Lib.Math.min.name Lib.Math.min.code 2 (some .int) ∈ wsX3_tell := by decide +kernel
theorem lkX3_tell_m73 : Cond.methodLink RX3 73 Lib.Math.max.name ∈ wsX3_tell := by decide +kernel
theorem lkX3_tell_ms_max : Cond.static Lib.Math.max.name ∈ wsX3_tell := by decide +kernel
theorem lkX3_tell_mc_max : Cond.code Lib.Math.max.name Lib.Math.max.code 2 (some .int) ∈ wsX3_tell := by decide +kernel
theorem ndX3_tell : yX3_tell.cls ≠ "java/lang/invoke/MethodHandle" ∧ yX3_tell.cls ≠ "java/lang/invoke/VarHandle" ∧ (parseMethodDescriptor yX3_tell.desc).map (fun d => d.parameters.length) = some 2 := by decide +kernel
set_option maxRecDepth 100000 in
set_option maxHeartbeats 4000000 in
theorem wX3_tell_105 {p : Program} {l : Launch} {e : Env} {s : State} {m : MethodId} {args : Array Value} {below : List Frame} {meth : Method} {c : Code} {G : hp_G} {h0 h' : hp_H}  (X : hp_X p s m args meth c cX3_tell 7 RX3 wsX3_tell none G)     {t0 : Nat} {t1 : Int32} {h : hp_H} {H : Heap} {locs : List Loc} {ls : Array Slot} (Y : hp_Y G h h0 s H locs) (hl : lv_has ls 7 []) (hF : bX3_tell_105  t0 t1 h = some h') : W p l e rmX3_tell s m args below meth c H locs 0 0 (MQ below (va_Qv (fun u => u = h') (hp_B G h0) (hp_A h0)) args s 0 0 (hp_A h0)) (F0 m 105 ls [.int t1, .ref t0]) := by
  unfold bX3_tell_105 at hF
  obtain ⟨h2, e1, hF⟩ := hp_b hF
  refine hp_cv Y (hp_runV X Y (ci := 4) (As := [.int t1]) (n := 1) (T := TX4) (N := 2) (mX4_takeSign l G e1) rfl (oX4_takeSign e1) gX3_tell_X4_takeSign rfl rfl rfl ndX4_takeSign ⟨Nat.le_of_ble_eq_true rfl, Nat.le_of_ble_eq_true rfl⟩ rfl hl.1 rfl (Nat.le_of_ble_eq_true rfl) dX3_tell_105 ⟨Nat.zero_le _, Nat.zero_le _⟩) (fun H locs Y => ?_)
  cases hF
  exact hp_rv X Y rfl dX3_tell_108
set_option maxRecDepth 100000 in
set_option maxHeartbeats 4000000 in
theorem wX3_tell_93 {p : Program} {l : Launch} {e : Env} {s : State} {m : MethodId} {args : Array Value} {below : List Frame} {meth : Method} {c : Code} {G : hp_G} {h0 h' : hp_H}  (X : hp_X p s m args meth c cX3_tell 7 RX3 wsX3_tell none G)  {x1 : Nat} {x4 : Int32}   {h : hp_H} {H : Heap} {locs : List Loc} {ls : Array Slot} (Y : hp_Y G h h0 s H locs) (hl : lv_has ls 7 [(1, .ref x1), (4, .int x4)]) (hF : bX3_tell_93 x1 x4 h = some h') : W p l e rmX3_tell s m args below meth c H locs 0 0 (MQ below (va_Qv (fun u => u = h') (hp_B G h0) (hp_A h0)) args s 0 0 (hp_A h0)) (F0 m 93 ls []) := by
  unfold bX3_tell_93 at hF
  refine lv_aload_n X.1 X.2.1 dX3_tell_93 rfl (lv_at hl 0 rfl) ?_
  refine lv_iload X.1 X.2.1 dX3_tell_94 (lv_at hl 1 rfl) ?_
  refine lv_iconst (v := 1) X.1 X.2.1 dX3_tell_96 (by decide) ?_
  refine lv_icmp_ne (tgt := 104) X.1 X.2.1 dX3_tell_97 (by decide) (fun c1 => ?_) (fun c1 => ?_)
  · have hF := hp_ifn (c1) hF
    refine lv_iconst (v := 0) X.1 X.2.1 dX3_tell_104 (by decide) ?_
    exact wX3_tell_105 X  Y (lv_sub hl [] rfl) hF
  · have hF := hp_ifp (c1) hF
    refine lv_iconst (v := 1) X.1 X.2.1 dX3_tell_100 (by decide) ?_
    refine lv_goto (tgt := 105) X.1 X.2.1 dX3_tell_101 (by decide) ?_
    exact wX3_tell_105 X  Y (lv_sub hl [] rfl) hF
set_option maxRecDepth 100000 in
set_option maxHeartbeats 4000000 in
theorem wX3_tell_24 {p : Program} {l : Launch} {e : Env} {s : State} {m : MethodId} {args : Array Value} {below : List Frame} {meth : Method} {c : Code} {G : hp_G} {h0 h' : hp_H}  (X : hp_X p s m args meth c cX3_tell 7 RX3 wsX3_tell none G)  {x0 : Nat} {x1 : Nat} {x2 : Int32} {x3 : Int32} {x4 : Int32}   : ∀ (n : Nat) {x5 : Int32} {h : hp_H} {H : Heap} {locs : List Loc} {ls : Array Slot} (Y : hp_Y G h h0 s H locs) (hl : lv_has ls 7 [(0, .ref x0), (1, .ref x1), (2, .int x2), (3, .int x3), (4, .int x4), (5, .int x5)]) (hF : bX3_tell_24 x0 x1 x2 x3 x4 n x5 h = some h'), W p l e rmX3_tell s m args below meth c H locs 0 0 (MQ below (va_Qv (fun u => u = h') (hp_B G h0) (hp_A h0)) args s 0 0 (hp_A h0)) (F0 m 24 ls []) := by
  intro n
  induction n with
  | zero =>
    intro x5 h H locs ls Y hl hF
    exact absurd (show none = some _ from hF) (by simp)
  | succ n ih =>
    intro x5 h H locs ls Y hl hF
    rw [bX3_tell_24] at hF
    refine lv_iload X.1 X.2.1 dX3_tell_24 (lv_at hl 5 rfl) ?_
    refine lv_aload_n X.1 X.2.1 dX3_tell_26 rfl (lv_at hl 0 rfl) ?_
    obtain ⟨v1, e2, hF⟩ := hp_b hF
    refine hp_geti X Y (C := RX3) (T := TX3) (N := 2) (ci := 3) (k := 1) rfl inX3_tell_X3 (by decide) lkX3_tell_f15 e2 dX3_tell_27 ?_
    refine lv_icmp_ge (tgt := 93) X.1 X.2.1 dX3_tell_30 (by decide) (fun c3 => ?_) (fun c3 => ?_)
    · have hF := hp_ifp (c3) hF
      exact wX3_tell_93 X  Y (lv_sub hl [1, 4] rfl) hF
    · have hF := hp_ifn (c3) hF
      refine lv_aload_n X.1 X.2.1 dX3_tell_33 rfl (lv_at hl 1 rfl) ?_
      obtain ⟨v4, e5, hF⟩ := hp_b hF
      refine hp_getr X Y (C := RX4) (T := TX4) (N := 2) (ci := 4) (k := 0) rfl inX3_tell_X4 (by decide) lkX3_tell_f19 e5 dX3_tell_34 ?_
      obtain ⟨v7, e6, hF⟩ := hp_b hF
      refine hp_ci Y (hp_runV X Y (ci := 2) (As := []) (n := 0) (T := TX2) (N := 2) (mX2_bitLength l G e6) rfl (oX2_bitLength e6) gX3_tell_X2_bitLength rfl rfl rfl ndX2_bitLength ⟨Nat.le_of_ble_eq_true rfl, Nat.le_of_ble_eq_true rfl⟩ rfl hl.1 rfl (Nat.le_of_ble_eq_true rfl) dX3_tell_37 ⟨Nat.zero_le _, Nat.zero_le _⟩) (fun H locs Y => ?_)
      refine lv_sipush (v := 4096) X.1 X.2.1 dX3_tell_40 (by decide) ?_
      refine lv_icmp_gt (tgt := 93) X.1 X.2.1 dX3_tell_43 (by decide) (fun c8 => ?_) (fun c8 => ?_)
      · have hF := hp_ifp (c8) hF
        exact wX3_tell_93 X  Y (lv_sub hl [1, 4] rfl) hF
      · have hF := hp_ifn (c8) hF
        refine lv_iload X.1 X.2.1 dX3_tell_46 (lv_at hl 5 rfl) ?_
        refine lv_iload_n X.1 X.2.1 dX3_tell_48 rfl (lv_at hl 3 rfl) ?_
        refine lv_iadd X.1 X.2.1 dX3_tell_49 ?_
        refine lv_aload_n X.1 X.2.1 dX3_tell_50 rfl (lv_at hl 0 rfl) ?_
        obtain ⟨v9, e10, hF⟩ := hp_b hF
        refine hp_geti X Y (C := RX3) (T := TX3) (N := 2) (ci := 3) (k := 1) rfl inX3_tell_X3 (by decide) lkX3_tell_f15 e10 dX3_tell_51 ?_
        refine va_mmin X.1 X.2.1 (X.2.2.1.trans hl.1.symm) X.2.2.2.1 (X.2.2.2.2.1 _ lkX3_tell_m81) (X.2.2.2.2.1 _ lkX3_tell_ms_min) (X.2.2.2.2.1 _ lkX3_tell_mi) (X.2.2.2.2.1 _ lkX3_tell_mc_min) (Nat.le_of_ble_eq_true rfl) (Nat.le_of_ble_eq_true rfl) (Nat.zero_le _) (Nat.zero_le _) dX3_tell_54 ?_
        obtain ⟨v11, e12, hF⟩ := hp_b hF
        refine hp_ti (Option.some.inj e12) ?_
        refine lv_istore (lv' := [(6, .int v11), (0, .ref x0), (1, .ref x1), (2, .int x2), (3, .int x3), (4, .int x4), (5, .int x5)]) X.1 X.2.1 dX3_tell_57 hl (by decide) rfl (fun ls hl => ?_)
        refine lv_aload_n X.1 X.2.1 dX3_tell_59 rfl (lv_at hl 2 rfl) ?_
        obtain ⟨v13, e14, hF⟩ := hp_b hF
        refine hp_getr X Y (C := RX4) (T := TX4) (N := 2) (ci := 4) (k := 0) rfl inX3_tell_X4 (by decide) lkX3_tell_f19 e14 dX3_tell_60 ?_
        refine lv_iload_n X.1 X.2.1 dX3_tell_63 rfl (lv_at hl 3 rfl) ?_
        refine lv_iload X.1 X.2.1 dX3_tell_64 (lv_at hl 0 rfl) ?_
        refine lv_iload X.1 X.2.1 dX3_tell_66 (lv_at hl 6 rfl) ?_
        refine lv_isub X.1 X.2.1 dX3_tell_68 ?_
        obtain ⟨v16, e15, hF⟩ := hp_b hF
        refine hp_ci Y (hp_runS X Y (As := [.int x2, .int (v11 - x5)]) (n := 2) (mX3_powerOf l G e15) gX3_tell_X3_powerOf rfl rfl rfl ndX3_powerOf ⟨Nat.le_of_ble_eq_true rfl, Nat.le_of_ble_eq_true rfl⟩ rfl hl.1 rfl (Nat.le_of_ble_eq_true rfl) dX3_tell_69 ⟨Nat.zero_le _, Nat.zero_le _⟩) (fun H locs Y => ?_)
        refine lv_aload_n X.1 X.2.1 dX3_tell_72 rfl (lv_at hl 1 rfl) ?_
        refine lv_iload X.1 X.2.1 dX3_tell_73 (lv_at hl 6 rfl) ?_
        refine lv_iload X.1 X.2.1 dX3_tell_75 (lv_at hl 0 rfl) ?_
        refine lv_iload_n X.1 X.2.1 dX3_tell_77 rfl (lv_at hl 3 rfl) ?_
        obtain ⟨v18, e17, hF⟩ := hp_b hF
        refine hp_ci Y (hp_runV X Y (ci := 3) (As := [.int x5, .int v11, .int x2]) (n := 3) (T := TX3) (N := 2) (mX3_pieceBetween l G e17) rfl (oX3_pieceBetween e17) gX3_tell_X3_pieceBetween rfl rfl rfl ndX3_pieceBetween ⟨Nat.le_of_ble_eq_true rfl, Nat.le_of_ble_eq_true rfl⟩ rfl hl.1 rfl (Nat.le_of_ble_eq_true rfl) dX3_tell_78 ⟨Nat.zero_le _, Nat.zero_le _⟩) (fun H locs Y => ?_)
        obtain ⟨h20, e19, hF⟩ := hp_b hF
        refine hp_cv Y (hp_runV X Y (ci := 2) (As := [.int v16, .int v18]) (n := 2) (T := TX2) (N := 2) (mX2_timesPlus l G e19) rfl (oX2_timesPlus e19) gX3_tell_X2_timesPlus rfl rfl rfl ndX2_timesPlus ⟨Nat.le_of_ble_eq_true rfl, Nat.le_of_ble_eq_true rfl⟩ rfl hl.1 rfl (Nat.le_of_ble_eq_true rfl) dX3_tell_81 ⟨Nat.zero_le _, Nat.zero_le _⟩) (fun H locs Y => ?_)
        refine lv_iload X.1 X.2.1 dX3_tell_84 (lv_at hl 6 rfl) ?_
        refine lv_iload_n X.1 X.2.1 dX3_tell_86 rfl (lv_at hl 4 rfl) ?_
        refine lv_iadd X.1 X.2.1 dX3_tell_87 ?_
        obtain ⟨v21, e22, hF⟩ := hp_b hF
        refine hp_ti (Option.some.inj e22) ?_
        refine lv_istore (lv' := [(5, .int v21), (6, .int v11), (0, .ref x0), (1, .ref x1), (2, .int x2), (3, .int x3), (4, .int x4)]) X.1 X.2.1 dX3_tell_88 hl (by decide) rfl (fun ls hl => ?_)
        refine lv_goto (tgt := 24) X.1 X.2.1 dX3_tell_90 (by decide) ?_
        exact ih Y (lv_sub hl [2, 3, 4, 5, 6, 0] rfl) hF
theorem oX3_tell {x0 : Nat} {x1 : Nat} {x2 : Int32} {h h' : hp_H}  (hF : fX3_tell x0 x1 x2 h = some h') : hp_o h x0 3 = true := by
  unfold fX3_tell at hF
  exact (hp_ift hF).1
set_option maxRecDepth 100000 in
set_option maxHeartbeats 4000000 in
theorem mX3_tell (l : Launch) (G : hp_G) {x0 : Nat} {x1 : Nat} {x2 : Int32} {h h' : hp_H}  (hF : fX3_tell x0 x1 x2 h = some h') : Met l yX3_tell wsX3_tell rmX3_tell (va_Pc [.ref x0, .ref x1, .int x2] (hp_S G h)) (va_Qv (fun u => u = h') (hp_B G h) (hp_A h)) 0 0 (hp_A h) := by
  refine hp_met (cc := cX3_tell) (nL := 7) (ret := none) (by decide) rfl ?_
  intro p e s m below meth c X Y
  have hl := lv_entry ([.ref x0, .ref x1, .int x2]) (n := 7) (Nat.le_of_ble_eq_true rfl)
  rw [lg_entry_eq]
  generalize (lg_sl ([.ref x0, .ref x1, .int x2]) ++ List.replicate (7 - (lg_sl ([.ref x0, .ref x1, .int x2])).length) Slot.unset).toArray = ls at hl ⊢
  have hl : lv_has ls 7 [(0, .ref x0), (1, .ref x1), (2, .int x2)] := hl
  unfold fX3_tell at hF
  obtain ⟨ho, hF⟩ := hp_ift hF
  refine lv_aload_n X.1 X.2.1 dX3_tell_0 rfl (lv_at hl 1 rfl) ?_
  refine lv_lconst (v := 0) X.1 X.2.1 dX3_tell_1 (by decide) ?_
  obtain ⟨h2, e1, hF⟩ := hp_b hF
  refine hp_cv Y (hp_runV X Y (ci := 4) (As := [.long (0 : Int64)]) (n := 1) (T := TX4) (N := 2) (mX4_takeLong l G e1) rfl (oX4_takeLong e1) gX3_tell_X4_takeLong rfl rfl rfl ndX4_takeLong ⟨Nat.le_of_ble_eq_true rfl, Nat.le_of_ble_eq_true rfl⟩ rfl hl.1 rfl (Nat.le_of_ble_eq_true rfl) dX3_tell_2 ⟨Nat.zero_le _, Nat.zero_le _⟩) (fun H locs Y => ?_)
  refine lv_iload_n X.1 X.2.1 dX3_tell_5 rfl (lv_at hl 2 rfl) ?_
  obtain ⟨v4, e3, hF⟩ := hp_b hF
  refine hp_ci Y (hp_runS X Y (As := [.int x2]) (n := 1) (mX3_digitsInLimb l G e3) gX3_tell_X3_digitsInLimb rfl rfl rfl ndX3_digitsInLimb ⟨Nat.le_of_ble_eq_true rfl, Nat.le_of_ble_eq_true rfl⟩ rfl hl.1 rfl (Nat.le_of_ble_eq_true rfl) dX3_tell_6 ⟨Nat.zero_le _, Nat.zero_le _⟩) (fun H locs Y => ?_)
  refine lv_iconst (v := 1) X.1 X.2.1 dX3_tell_9 (by decide) ?_
  refine va_mmax X.1 X.2.1 (X.2.2.1.trans hl.1.symm) X.2.2.2.1 (X.2.2.2.2.1 _ lkX3_tell_m73) (X.2.2.2.2.1 _ lkX3_tell_ms_max) (X.2.2.2.2.1 _ lkX3_tell_mi) (X.2.2.2.2.1 _ lkX3_tell_mc_max) (Nat.le_of_ble_eq_true rfl) (Nat.le_of_ble_eq_true rfl) (Nat.zero_le _) (Nat.zero_le _) dX3_tell_10 ?_
  obtain ⟨v5, e6, hF⟩ := hp_b hF
  refine hp_ti (Option.some.inj e6) ?_
  refine lv_istore_n (lv' := [(3, .int v5), (0, .ref x0), (1, .ref x1), (2, .int x2)]) X.1 X.2.1 dX3_tell_13 rfl hl (by decide) rfl (fun ls hl => ?_)
  refine lv_aload_n X.1 X.2.1 dX3_tell_14 rfl (lv_at hl 1 rfl) ?_
  obtain ⟨v8, e7, hF⟩ := hp_b hF
  refine hp_ci Y (hp_runV X Y (ci := 3) (As := []) (n := 0) (T := TX3) (N := 2) (mX3_firstDigit l G e7) rfl (oX3_firstDigit e7) gX3_tell_X3_firstDigit rfl rfl rfl ndX3_firstDigit ⟨Nat.le_of_ble_eq_true rfl, Nat.le_of_ble_eq_true rfl⟩ rfl hl.1 rfl (Nat.le_of_ble_eq_true rfl) dX3_tell_15 ⟨Nat.zero_le _, Nat.zero_le _⟩) (fun H locs Y => ?_)
  refine lv_istore (lv' := [(4, .int v8), (3, .int v5), (0, .ref x0), (1, .ref x1), (2, .int x2)]) X.1 X.2.1 dX3_tell_18 hl (by decide) rfl (fun ls hl => ?_)
  refine lv_iload X.1 X.2.1 dX3_tell_20 (lv_at hl 0 rfl) ?_
  refine lv_istore (lv' := [(5, .int v8), (4, .int v8), (3, .int v5), (0, .ref x0), (1, .ref x1), (2, .int x2)]) X.1 X.2.1 dX3_tell_22 hl (by decide) rfl (fun ls hl => ?_)
  exact wX3_tell_24 X  hp_n Y (lv_sub hl [3, 4, 5, 2, 1, 0] rfl) hF
