/-! java/lang/Integer.numberOfLeadingZeros -/
def rmJ6_numberOfLeadingZeros_0f7a4 : Room := { frames := 0, cells := 0, slots := 0, locals := 0 }
def bJ6_numberOfLeadingZeros_0f7a4_73  (x0 : Int32) (x1 : Int32)  : Option Int32 :=
  some (x1 - (hp_iushr x0 (1 : Int32)))
def bJ6_numberOfLeadingZeros_0f7a4_61  (x0 : Int32) (x1 : Int32)  : Option Int32 :=
  if x0 < (4 : Int32) then (
    bJ6_numberOfLeadingZeros_0f7a4_73 x0 x1)
  else (
    (some (x1 + (-2 : Int32))).bind fun v2 =>
    (some (hp_iushr x0 (2 : Int32))).bind fun v4 =>
    bJ6_numberOfLeadingZeros_0f7a4_73 v4 v2)
def bJ6_numberOfLeadingZeros_0f7a4_48  (x0 : Int32) (x1 : Int32)  : Option Int32 :=
  if x0 < (16 : Int32) then (
    bJ6_numberOfLeadingZeros_0f7a4_61 x0 x1)
  else (
    (some (x1 + (-4 : Int32))).bind fun v2 =>
    (some (hp_iushr x0 (4 : Int32))).bind fun v4 =>
    bJ6_numberOfLeadingZeros_0f7a4_61 v4 v2)
def bJ6_numberOfLeadingZeros_0f7a4_33  (x0 : Int32) (x1 : Int32)  : Option Int32 :=
  if x0 < (256 : Int32) then (
    bJ6_numberOfLeadingZeros_0f7a4_48 x0 x1)
  else (
    (some (x1 + (-8 : Int32))).bind fun v2 =>
    (some (hp_iushr x0 (8 : Int32))).bind fun v4 =>
    bJ6_numberOfLeadingZeros_0f7a4_48 v4 v2)
def fJ6_numberOfLeadingZeros_0f7a4 (x0 : Int32) : Option Int32 :=
  if 0 < x0 then (
    if x0 < (65536 : Int32) then (
      bJ6_numberOfLeadingZeros_0f7a4_33 x0 (31 : Int32))
    else (
      (some ((31 : Int32) + (-16 : Int32))).bind fun v3 =>
      (some (hp_iushr x0 (16 : Int32))).bind fun v5 =>
      bJ6_numberOfLeadingZeros_0f7a4_33 v5 v3))
  else (
    if x0 = 0 then (
      some (32 : Int32))
    else (
      some (0 : Int32)))
theorem lkJ6_numberOfLeadingZeros_0f7a4_c264 : Cond.constant RJ6 264 (65536) ∈ wsJ6_numberOfLeadingZeros_0f7a4 := by decide +kernel
theorem ndJ6_numberOfLeadingZeros_0f7a4 : yJ6_numberOfLeadingZeros_0f7a4.cls ≠ "java/lang/invoke/MethodHandle" ∧ yJ6_numberOfLeadingZeros_0f7a4.cls ≠ "java/lang/invoke/VarHandle" ∧ (parseMethodDescriptor yJ6_numberOfLeadingZeros_0f7a4.desc).map (fun d => d.parameters.length) = some 1 := by decide +kernel
set_option maxRecDepth 100000 in
set_option maxHeartbeats 4000000 in
theorem wJ6_numberOfLeadingZeros_0f7a4_73 {p : Program} {l : Launch} {e : Env} {s : State} {m : MethodId} {args : Array Value} {below : List Frame} {meth : Method} {c : Code} {G : hp_G} {h0 : hp_H} {r : Int32} (X : hp_X p s m args meth c cJ6_numberOfLeadingZeros_0f7a4 2 RJ6 wsJ6_numberOfLeadingZeros_0f7a4 (some .int) G)  {x0 : Int32} {x1 : Int32}    {H : Heap} {locs : List Loc} {ls : Array Slot} (Y : hp_Y G h0 h0 s H locs) (hl : lv_has ls 2 [(0, .int x0), (1, .int x1)]) (hF : bJ6_numberOfLeadingZeros_0f7a4_73 x0 x1 = some r) : W p l e rmJ6_numberOfLeadingZeros_0f7a4 s m args below meth c H locs 0 0 (MQ below (va_Qi (fun r' u => r' = r ∧ u = h0) (hp_B G h0) (hp_A h0)) args s 0 0 (hp_A h0)) (F0 m 73 ls []) := by
  unfold bJ6_numberOfLeadingZeros_0f7a4_73 at hF
  refine lv_iload_n X.1 X.2.1 dJ6_numberOfLeadingZeros_0f7a4_73 rfl (lv_at hl 1 rfl) ?_
  refine lv_iload_n X.1 X.2.1 dJ6_numberOfLeadingZeros_0f7a4_74 rfl (lv_at hl 0 rfl) ?_
  refine lv_iconst (v := 1) X.1 X.2.1 dJ6_numberOfLeadingZeros_0f7a4_75 (by decide) ?_
  refine lv_iushr (v := hp_iushr x0 (1 : Int32)) X.1 X.2.1 dJ6_numberOfLeadingZeros_0f7a4_76 rfl ?_
  refine lv_isub X.1 X.2.1 dJ6_numberOfLeadingZeros_0f7a4_77 ?_
  cases hF
  exact hp_ri X Y rfl rfl dJ6_numberOfLeadingZeros_0f7a4_78
set_option maxRecDepth 100000 in
set_option maxHeartbeats 4000000 in
theorem wJ6_numberOfLeadingZeros_0f7a4_61 {p : Program} {l : Launch} {e : Env} {s : State} {m : MethodId} {args : Array Value} {below : List Frame} {meth : Method} {c : Code} {G : hp_G} {h0 : hp_H} {r : Int32} (X : hp_X p s m args meth c cJ6_numberOfLeadingZeros_0f7a4 2 RJ6 wsJ6_numberOfLeadingZeros_0f7a4 (some .int) G)  {x0 : Int32} {x1 : Int32}    {H : Heap} {locs : List Loc} {ls : Array Slot} (Y : hp_Y G h0 h0 s H locs) (hl : lv_has ls 2 [(0, .int x0), (1, .int x1)]) (hF : bJ6_numberOfLeadingZeros_0f7a4_61 x0 x1 = some r) : W p l e rmJ6_numberOfLeadingZeros_0f7a4 s m args below meth c H locs 0 0 (MQ below (va_Qi (fun r' u => r' = r ∧ u = h0) (hp_B G h0) (hp_A h0)) args s 0 0 (hp_A h0)) (F0 m 61 ls []) := by
  unfold bJ6_numberOfLeadingZeros_0f7a4_61 at hF
  refine lv_iload_n X.1 X.2.1 dJ6_numberOfLeadingZeros_0f7a4_61 rfl (lv_at hl 0 rfl) ?_
  refine lv_iconst (v := 4) X.1 X.2.1 dJ6_numberOfLeadingZeros_0f7a4_62 (by decide) ?_
  refine lv_icmp_lt (tgt := 73) X.1 X.2.1 dJ6_numberOfLeadingZeros_0f7a4_63 (by decide) (fun c1 => ?_) (fun c1 => ?_)
  · have hF := hp_ifp (c1) hF
    exact wJ6_numberOfLeadingZeros_0f7a4_73 X  Y (lv_sub hl [0, 1] rfl) hF
  · have hF := hp_ifn (c1) hF
    obtain ⟨v2, e3, hF⟩ := hp_b hF
    refine lv_iinc (v := v2) (lv' := [(1, .int v2), (0, .int x0)]) X.1 X.2.1 dJ6_numberOfLeadingZeros_0f7a4_66 hl (k := 1) rfl (Option.some.inj e3) (by decide) rfl (fun ls hl => ?_)
    refine lv_iload_n X.1 X.2.1 dJ6_numberOfLeadingZeros_0f7a4_69 rfl (lv_at hl 1 rfl) ?_
    refine lv_iconst (v := 2) X.1 X.2.1 dJ6_numberOfLeadingZeros_0f7a4_70 (by decide) ?_
    refine lv_iushr (v := hp_iushr x0 (2 : Int32)) X.1 X.2.1 dJ6_numberOfLeadingZeros_0f7a4_71 rfl ?_
    obtain ⟨v4, e5, hF⟩ := hp_b hF
    refine hp_ti (Option.some.inj e5) ?_
    refine lv_istore_n (lv' := [(0, .int v4), (1, .int v2)]) X.1 X.2.1 dJ6_numberOfLeadingZeros_0f7a4_72 rfl hl (by decide) rfl (fun ls hl => ?_)
    exact wJ6_numberOfLeadingZeros_0f7a4_73 X  Y (lv_sub hl [0, 1] rfl) hF
set_option maxRecDepth 100000 in
set_option maxHeartbeats 4000000 in
theorem wJ6_numberOfLeadingZeros_0f7a4_48 {p : Program} {l : Launch} {e : Env} {s : State} {m : MethodId} {args : Array Value} {below : List Frame} {meth : Method} {c : Code} {G : hp_G} {h0 : hp_H} {r : Int32} (X : hp_X p s m args meth c cJ6_numberOfLeadingZeros_0f7a4 2 RJ6 wsJ6_numberOfLeadingZeros_0f7a4 (some .int) G)  {x0 : Int32} {x1 : Int32}    {H : Heap} {locs : List Loc} {ls : Array Slot} (Y : hp_Y G h0 h0 s H locs) (hl : lv_has ls 2 [(0, .int x0), (1, .int x1)]) (hF : bJ6_numberOfLeadingZeros_0f7a4_48 x0 x1 = some r) : W p l e rmJ6_numberOfLeadingZeros_0f7a4 s m args below meth c H locs 0 0 (MQ below (va_Qi (fun r' u => r' = r ∧ u = h0) (hp_B G h0) (hp_A h0)) args s 0 0 (hp_A h0)) (F0 m 48 ls []) := by
  unfold bJ6_numberOfLeadingZeros_0f7a4_48 at hF
  refine lv_iload_n X.1 X.2.1 dJ6_numberOfLeadingZeros_0f7a4_48 rfl (lv_at hl 0 rfl) ?_
  refine lv_bipush (v := 16) X.1 X.2.1 dJ6_numberOfLeadingZeros_0f7a4_49 (by decide) ?_
  refine lv_icmp_lt (tgt := 61) X.1 X.2.1 dJ6_numberOfLeadingZeros_0f7a4_51 (by decide) (fun c1 => ?_) (fun c1 => ?_)
  · have hF := hp_ifp (c1) hF
    exact wJ6_numberOfLeadingZeros_0f7a4_61 X  Y (lv_sub hl [0, 1] rfl) hF
  · have hF := hp_ifn (c1) hF
    obtain ⟨v2, e3, hF⟩ := hp_b hF
    refine lv_iinc (v := v2) (lv' := [(1, .int v2), (0, .int x0)]) X.1 X.2.1 dJ6_numberOfLeadingZeros_0f7a4_54 hl (k := 1) rfl (Option.some.inj e3) (by decide) rfl (fun ls hl => ?_)
    refine lv_iload_n X.1 X.2.1 dJ6_numberOfLeadingZeros_0f7a4_57 rfl (lv_at hl 1 rfl) ?_
    refine lv_iconst (v := 4) X.1 X.2.1 dJ6_numberOfLeadingZeros_0f7a4_58 (by decide) ?_
    refine lv_iushr (v := hp_iushr x0 (4 : Int32)) X.1 X.2.1 dJ6_numberOfLeadingZeros_0f7a4_59 rfl ?_
    obtain ⟨v4, e5, hF⟩ := hp_b hF
    refine hp_ti (Option.some.inj e5) ?_
    refine lv_istore_n (lv' := [(0, .int v4), (1, .int v2)]) X.1 X.2.1 dJ6_numberOfLeadingZeros_0f7a4_60 rfl hl (by decide) rfl (fun ls hl => ?_)
    exact wJ6_numberOfLeadingZeros_0f7a4_61 X  Y (lv_sub hl [0, 1] rfl) hF
set_option maxRecDepth 100000 in
set_option maxHeartbeats 4000000 in
theorem wJ6_numberOfLeadingZeros_0f7a4_33 {p : Program} {l : Launch} {e : Env} {s : State} {m : MethodId} {args : Array Value} {below : List Frame} {meth : Method} {c : Code} {G : hp_G} {h0 : hp_H} {r : Int32} (X : hp_X p s m args meth c cJ6_numberOfLeadingZeros_0f7a4 2 RJ6 wsJ6_numberOfLeadingZeros_0f7a4 (some .int) G)  {x0 : Int32} {x1 : Int32}    {H : Heap} {locs : List Loc} {ls : Array Slot} (Y : hp_Y G h0 h0 s H locs) (hl : lv_has ls 2 [(0, .int x0), (1, .int x1)]) (hF : bJ6_numberOfLeadingZeros_0f7a4_33 x0 x1 = some r) : W p l e rmJ6_numberOfLeadingZeros_0f7a4 s m args below meth c H locs 0 0 (MQ below (va_Qi (fun r' u => r' = r ∧ u = h0) (hp_B G h0) (hp_A h0)) args s 0 0 (hp_A h0)) (F0 m 33 ls []) := by
  unfold bJ6_numberOfLeadingZeros_0f7a4_33 at hF
  refine lv_iload_n X.1 X.2.1 dJ6_numberOfLeadingZeros_0f7a4_33 rfl (lv_at hl 0 rfl) ?_
  refine lv_sipush (v := 256) X.1 X.2.1 dJ6_numberOfLeadingZeros_0f7a4_34 (by decide) ?_
  refine lv_icmp_lt (tgt := 48) X.1 X.2.1 dJ6_numberOfLeadingZeros_0f7a4_37 (by decide) (fun c1 => ?_) (fun c1 => ?_)
  · have hF := hp_ifp (c1) hF
    exact wJ6_numberOfLeadingZeros_0f7a4_48 X  Y (lv_sub hl [0, 1] rfl) hF
  · have hF := hp_ifn (c1) hF
    obtain ⟨v2, e3, hF⟩ := hp_b hF
    refine lv_iinc (v := v2) (lv' := [(1, .int v2), (0, .int x0)]) X.1 X.2.1 dJ6_numberOfLeadingZeros_0f7a4_40 hl (k := 1) rfl (Option.some.inj e3) (by decide) rfl (fun ls hl => ?_)
    refine lv_iload_n X.1 X.2.1 dJ6_numberOfLeadingZeros_0f7a4_43 rfl (lv_at hl 1 rfl) ?_
    refine lv_bipush (v := 8) X.1 X.2.1 dJ6_numberOfLeadingZeros_0f7a4_44 (by decide) ?_
    refine lv_iushr (v := hp_iushr x0 (8 : Int32)) X.1 X.2.1 dJ6_numberOfLeadingZeros_0f7a4_46 rfl ?_
    obtain ⟨v4, e5, hF⟩ := hp_b hF
    refine hp_ti (Option.some.inj e5) ?_
    refine lv_istore_n (lv' := [(0, .int v4), (1, .int v2)]) X.1 X.2.1 dJ6_numberOfLeadingZeros_0f7a4_47 rfl hl (by decide) rfl (fun ls hl => ?_)
    exact wJ6_numberOfLeadingZeros_0f7a4_48 X  Y (lv_sub hl [0, 1] rfl) hF
set_option maxRecDepth 100000 in
set_option maxHeartbeats 4000000 in
theorem mJ6_numberOfLeadingZeros_0f7a4 (l : Launch) (G : hp_G) {x0 : Int32} {h : hp_H} {r : Int32} (hF : fJ6_numberOfLeadingZeros_0f7a4 x0 = some r) : Met l yJ6_numberOfLeadingZeros_0f7a4 wsJ6_numberOfLeadingZeros_0f7a4 rmJ6_numberOfLeadingZeros_0f7a4 (va_Pc [.int x0] (hp_S G h)) (va_Qi (fun r' u => r' = r ∧ u = h) (hp_B G h) (hp_A h)) 0 0 (hp_A h) := by
  refine hp_met (cc := cJ6_numberOfLeadingZeros_0f7a4) (nL := 2) (ret := (some .int)) (by decide) rfl ?_
  intro p e s m below meth c X Y
  have hl := lv_entry ([.int x0]) (n := 2) (Nat.le_of_ble_eq_true rfl)
  rw [lg_entry_eq]
  generalize (lg_sl ([.int x0]) ++ List.replicate (2 - (lg_sl ([.int x0])).length) Slot.unset).toArray = ls at hl ⊢
  have hl : lv_has ls 2 [(0, .int x0)] := hl
  unfold fJ6_numberOfLeadingZeros_0f7a4 at hF
  refine lv_iload_n X.1 X.2.1 dJ6_numberOfLeadingZeros_0f7a4_0 rfl (lv_at hl 0 rfl) ?_
  refine lv_if_gt (tgt := 15) X.1 X.2.1 dJ6_numberOfLeadingZeros_0f7a4_1 (by decide) (fun c1 => ?_) (fun c1 => ?_)
  · have hF := hp_ifp (c1) hF
    refine lv_bipush (v := 31) X.1 X.2.1 dJ6_numberOfLeadingZeros_0f7a4_15 (by decide) ?_
    refine lv_istore_n (lv' := [(1, .int (31 : Int32)), (0, .int x0)]) X.1 X.2.1 dJ6_numberOfLeadingZeros_0f7a4_17 rfl hl (by decide) rfl (fun ls hl => ?_)
    refine lv_iload_n X.1 X.2.1 dJ6_numberOfLeadingZeros_0f7a4_18 rfl (lv_at hl 1 rfl) ?_
    refine lv_ldcw (v := 65536) X.1 X.2.1 X.2.2.2.1 (X.2.2.2.2.1 _ lkJ6_numberOfLeadingZeros_0f7a4_c264) dJ6_numberOfLeadingZeros_0f7a4_19 ?_
    refine lv_icmp_lt (tgt := 33) X.1 X.2.1 dJ6_numberOfLeadingZeros_0f7a4_22 (by decide) (fun c2 => ?_) (fun c2 => ?_)
    · have hF := hp_ifp (c2) hF
      exact wJ6_numberOfLeadingZeros_0f7a4_33 X  Y (lv_sub hl [1, 0] rfl) hF
    · have hF := hp_ifn (c2) hF
      obtain ⟨v3, e4, hF⟩ := hp_b hF
      refine lv_iinc (v := v3) (lv' := [(1, .int v3), (0, .int x0)]) X.1 X.2.1 dJ6_numberOfLeadingZeros_0f7a4_25 hl (k := 0) rfl (Option.some.inj e4) (by decide) rfl (fun ls hl => ?_)
      refine lv_iload_n X.1 X.2.1 dJ6_numberOfLeadingZeros_0f7a4_28 rfl (lv_at hl 1 rfl) ?_
      refine lv_bipush (v := 16) X.1 X.2.1 dJ6_numberOfLeadingZeros_0f7a4_29 (by decide) ?_
      refine lv_iushr (v := hp_iushr x0 (16 : Int32)) X.1 X.2.1 dJ6_numberOfLeadingZeros_0f7a4_31 rfl ?_
      obtain ⟨v5, e6, hF⟩ := hp_b hF
      refine hp_ti (Option.some.inj e6) ?_
      refine lv_istore_n (lv' := [(0, .int v5), (1, .int v3)]) X.1 X.2.1 dJ6_numberOfLeadingZeros_0f7a4_32 rfl hl (by decide) rfl (fun ls hl => ?_)
      exact wJ6_numberOfLeadingZeros_0f7a4_33 X  Y (lv_sub hl [0, 1] rfl) hF
  · have hF := hp_ifn (c1) hF
    refine lv_iload_n X.1 X.2.1 dJ6_numberOfLeadingZeros_0f7a4_4 rfl (lv_at hl 0 rfl) ?_
    refine lv_if_ne (tgt := 13) X.1 X.2.1 dJ6_numberOfLeadingZeros_0f7a4_5 (by decide) (fun c7 => ?_) (fun c7 => ?_)
    · have hF := hp_ifn (c7) hF
      refine lv_iconst (v := 0) X.1 X.2.1 dJ6_numberOfLeadingZeros_0f7a4_13 (by decide) ?_
      cases hF
      exact hp_ri X Y rfl rfl dJ6_numberOfLeadingZeros_0f7a4_14
    · have hF := hp_ifp (c7) hF
      refine lv_bipush (v := 32) X.1 X.2.1 dJ6_numberOfLeadingZeros_0f7a4_8 (by decide) ?_
      refine lv_goto (tgt := 14) X.1 X.2.1 dJ6_numberOfLeadingZeros_0f7a4_10 (by decide) ?_
      cases hF
      exact hp_ri X Y rfl rfl dJ6_numberOfLeadingZeros_0f7a4_14

/-! WholeNumbers$Natural.isZero -/
def rmX2_isZero : Room := { frames := 0, cells := 0, slots := 0, locals := 0 }
def fX2_isZero (x0 : Nat) (h : hp_H) : Option Int32 :=
  if hp_o h x0 2 = true then
  (hp_gi h x0 2 1).bind fun v1 =>
  if v1 = 0 then (
    some (1 : Int32))
  else (
    some (0 : Int32))
  else none
theorem inX2_isZero_X2 : ∀ w ∈ wsX20, w ∈ wsX2_isZero := by decide +kernel
theorem lkX2_isZero_f15 : Cond.fieldLink RX2 15 (TX2 1).1 (TX2 1).2.1 (TX2 1).2.2.1 ∈ wsX2_isZero := by decide +kernel
theorem ndX2_isZero : yX2_isZero.cls ≠ "java/lang/invoke/MethodHandle" ∧ yX2_isZero.cls ≠ "java/lang/invoke/VarHandle" ∧ (parseMethodDescriptor yX2_isZero.desc).map (fun d => d.parameters.length) = some 0 := by decide +kernel
theorem oX2_isZero {x0 : Nat} {h : hp_H} {r : Int32} (hF : fX2_isZero x0 h = some r) : hp_o h x0 2 = true := by
  unfold fX2_isZero at hF
  exact (hp_ift hF).1
set_option maxRecDepth 100000 in
set_option maxHeartbeats 4000000 in
theorem mX2_isZero (l : Launch) (G : hp_G) {x0 : Nat} {h : hp_H} {r : Int32} (hF : fX2_isZero x0 h = some r) : Met l yX2_isZero wsX2_isZero rmX2_isZero (va_Pc [.ref x0] (hp_S G h)) (va_Qi (fun r' u => r' = r ∧ u = h) (hp_B G h) (hp_A h)) 0 0 (hp_A h) := by
  refine hp_met (cc := cX2_isZero) (nL := 1) (ret := (some .boolean)) (by decide) rfl ?_
  intro p e s m below meth c X Y
  have hl := lv_entry ([.ref x0]) (n := 1) (Nat.le_of_ble_eq_true rfl)
  rw [lg_entry_eq]
  generalize (lg_sl ([.ref x0]) ++ List.replicate (1 - (lg_sl ([.ref x0])).length) Slot.unset).toArray = ls at hl ⊢
  have hl : lv_has ls 1 [(0, .ref x0)] := hl
  unfold fX2_isZero at hF
  obtain ⟨ho, hF⟩ := hp_ift hF
  refine lv_aload_n X.1 X.2.1 dX2_isZero_0 rfl (lv_at hl 0 rfl) ?_
  obtain ⟨v1, e2, hF⟩ := hp_b hF
  refine hp_geti X Y (C := RX2) (T := TX2) (N := 2) (ci := 2) (k := 1) rfl inX2_isZero_X2 (by decide) lkX2_isZero_f15 e2 dX2_isZero_1 ?_
  refine lv_if_ne (tgt := 11) X.1 X.2.1 dX2_isZero_4 (by decide) (fun c3 => ?_) (fun c3 => ?_)
  · have hF := hp_ifn (c3) hF
    refine lv_iconst (v := 0) X.1 X.2.1 dX2_isZero_11 (by decide) ?_
    cases hF
    exact hp_ri X Y rfl rfl dX2_isZero_12
  · have hF := hp_ifp (c3) hF
    refine lv_iconst (v := 1) X.1 X.2.1 dX2_isZero_7 (by decide) ?_
    refine lv_goto (tgt := 12) X.1 X.2.1 dX2_isZero_8 (by decide) ?_
    cases hF
    exact hp_ri X Y rfl rfl dX2_isZero_12

/-! WholeNumbers$Natural.limb -/
def rmX2_limb : Room := { frames := 0, cells := 0, slots := 0, locals := 0 }
def fX2_limb (x0 : Nat) (x1 : Int32) (h : hp_H) : Option Int32 :=
  if hp_o h x0 2 = true then
  if x1 < 0 then (
    some (0 : Int32))
  else (
    (hp_gi h x0 2 1).bind fun v2 =>
    if v2 ≤ x1 then (
      some (0 : Int32))
    else (
      (hp_gr h x0 2 0).bind fun v5 =>
      (hp_ai h 0 v5 x1).bind fun v7 =>
      some v7))
  else none
theorem inX2_limb_X2 : ∀ w ∈ wsX20, w ∈ wsX2_limb := by decide +kernel
theorem lkX2_limb_f15 : Cond.fieldLink RX2 15 (TX2 1).1 (TX2 1).2.1 (TX2 1).2.2.1 ∈ wsX2_limb := by decide +kernel
theorem lkX2_limb_f9 : Cond.fieldLink RX2 9 (TX2 0).1 (TX2 0).2.1 (TX2 0).2.2.1 ∈ wsX2_limb := by decide +kernel
theorem ndX2_limb : yX2_limb.cls ≠ "java/lang/invoke/MethodHandle" ∧ yX2_limb.cls ≠ "java/lang/invoke/VarHandle" ∧ (parseMethodDescriptor yX2_limb.desc).map (fun d => d.parameters.length) = some 1 := by decide +kernel
theorem oX2_limb {x0 : Nat} {x1 : Int32} {h : hp_H} {r : Int32} (hF : fX2_limb x0 x1 h = some r) : hp_o h x0 2 = true := by
  unfold fX2_limb at hF
  exact (hp_ift hF).1
set_option maxRecDepth 100000 in
set_option maxHeartbeats 4000000 in
theorem mX2_limb (l : Launch) (G : hp_G) {x0 : Nat} {x1 : Int32} {h : hp_H} {r : Int32} (hF : fX2_limb x0 x1 h = some r) : Met l yX2_limb wsX2_limb rmX2_limb (va_Pc [.ref x0, .int x1] (hp_S G h)) (va_Qi (fun r' u => r' = r ∧ u = h) (hp_B G h) (hp_A h)) 0 0 (hp_A h) := by
  refine hp_met (cc := cX2_limb) (nL := 2) (ret := (some .int)) (by decide) rfl ?_
  intro p e s m below meth c X Y
  have hl := lv_entry ([.ref x0, .int x1]) (n := 2) (Nat.le_of_ble_eq_true rfl)
  rw [lg_entry_eq]
  generalize (lg_sl ([.ref x0, .int x1]) ++ List.replicate (2 - (lg_sl ([.ref x0, .int x1])).length) Slot.unset).toArray = ls at hl ⊢
  have hl : lv_has ls 2 [(0, .ref x0), (1, .int x1)] := hl
  unfold fX2_limb at hF
  obtain ⟨ho, hF⟩ := hp_ift hF
  refine lv_iload_n X.1 X.2.1 dX2_limb_0 rfl (lv_at hl 1 rfl) ?_
  refine lv_if_lt (tgt := 21) X.1 X.2.1 dX2_limb_1 (by decide) (fun c1 => ?_) (fun c1 => ?_)
  · have hF := hp_ifp (c1) hF
    refine lv_iconst (v := 0) X.1 X.2.1 dX2_limb_21 (by decide) ?_
    cases hF
    exact hp_ri X Y rfl rfl dX2_limb_22
  · have hF := hp_ifn (c1) hF
    refine lv_iload_n X.1 X.2.1 dX2_limb_4 rfl (lv_at hl 1 rfl) ?_
    refine lv_aload_n X.1 X.2.1 dX2_limb_5 rfl (lv_at hl 0 rfl) ?_
    obtain ⟨v2, e3, hF⟩ := hp_b hF
    refine hp_geti X Y (C := RX2) (T := TX2) (N := 2) (ci := 2) (k := 1) rfl inX2_limb_X2 (by decide) lkX2_limb_f15 e3 dX2_limb_6 ?_
    refine lv_icmp_ge (tgt := 21) X.1 X.2.1 dX2_limb_9 (by decide) (fun c4 => ?_) (fun c4 => ?_)
    · have hF := hp_ifp (c4) hF
      refine lv_iconst (v := 0) X.1 X.2.1 dX2_limb_21 (by decide) ?_
      cases hF
      exact hp_ri X Y rfl rfl dX2_limb_22
    · have hF := hp_ifn (c4) hF
      refine lv_aload_n X.1 X.2.1 dX2_limb_12 rfl (lv_at hl 0 rfl) ?_
      obtain ⟨v5, e6, hF⟩ := hp_b hF
      refine hp_getr X Y (C := RX2) (T := TX2) (N := 2) (ci := 2) (k := 0) rfl inX2_limb_X2 (by decide) lkX2_limb_f9 e6 dX2_limb_13 ?_
      refine lv_iload_n X.1 X.2.1 dX2_limb_16 rfl (lv_at hl 1 rfl) ?_
      obtain ⟨v7, e8, hF⟩ := hp_b hF
      refine hp_iald X Y e8 dX2_limb_17 ?_
      refine lv_goto (tgt := 22) X.1 X.2.1 dX2_limb_18 (by decide) ?_
      cases hF
      exact hp_ri X Y rfl rfl dX2_limb_22

/-! WholeNumbers$Natural.spareBits -/
def rmX2_spareBits : Room := { frames := 1, cells := 0, slots := 0, locals := 21 }
def fX2_spareBits (x0 : Nat) (h : hp_H) : Option Int32 :=
  if hp_o h x0 2 = true then
  (hp_gi h x0 2 1).bind fun v1 =>
  if v1 = 0 then (
    some (0 : Int32))
  else (
    (hp_gi h x0 2 1).bind fun v4 =>
    (fX2_limb x0 (v4 - (1 : Int32)) h).bind fun v7 =>
    (fJ6_numberOfLeadingZeros_0f7a4 v7).bind fun v9 =>
    some (v9 - (2 : Int32)))
  else none
theorem inX2_spareBits_X2 : ∀ w ∈ wsX20, w ∈ wsX2_spareBits := by decide +kernel
theorem lkX2_spareBits_f15 : Cond.fieldLink RX2 15 (TX2 1).1 (TX2 1).2.1 (TX2 1).2.2.1 ∈ wsX2_spareBits := by decide +kernel
theorem ndX2_spareBits : yX2_spareBits.cls ≠ "java/lang/invoke/MethodHandle" ∧ yX2_spareBits.cls ≠ "java/lang/invoke/VarHandle" ∧ (parseMethodDescriptor yX2_spareBits.desc).map (fun d => d.parameters.length) = some 0 := by decide +kernel
theorem oX2_spareBits {x0 : Nat} {h : hp_H} {r : Int32} (hF : fX2_spareBits x0 h = some r) : hp_o h x0 2 = true := by
  unfold fX2_spareBits at hF
  exact (hp_ift hF).1
set_option maxRecDepth 100000 in
set_option maxHeartbeats 4000000 in
theorem mX2_spareBits (l : Launch) (G : hp_G) {x0 : Nat} {h : hp_H} {r : Int32} (hF : fX2_spareBits x0 h = some r) : Met l yX2_spareBits wsX2_spareBits rmX2_spareBits (va_Pc [.ref x0] (hp_S G h)) (va_Qi (fun r' u => r' = r ∧ u = h) (hp_B G h) (hp_A h)) 0 0 (hp_A h) := by
  refine hp_met (cc := cX2_spareBits) (nL := 1) (ret := (some .int)) (by decide) rfl ?_
  intro p e s m below meth c X Y
  have hl := lv_entry ([.ref x0]) (n := 1) (Nat.le_of_ble_eq_true rfl)
  rw [lg_entry_eq]
  generalize (lg_sl ([.ref x0]) ++ List.replicate (1 - (lg_sl ([.ref x0])).length) Slot.unset).toArray = ls at hl ⊢
  have hl : lv_has ls 1 [(0, .ref x0)] := hl
  unfold fX2_spareBits at hF
  obtain ⟨ho, hF⟩ := hp_ift hF
  refine lv_aload_n X.1 X.2.1 dX2_spareBits_0 rfl (lv_at hl 0 rfl) ?_
  obtain ⟨v1, e2, hF⟩ := hp_b hF
  refine hp_geti X Y (C := RX2) (T := TX2) (N := 2) (ci := 2) (k := 1) rfl inX2_spareBits_X2 (by decide) lkX2_spareBits_f15 e2 dX2_spareBits_1 ?_
  refine lv_if_ne (tgt := 11) X.1 X.2.1 dX2_spareBits_4 (by decide) (fun c3 => ?_) (fun c3 => ?_)
  · have hF := hp_ifn (c3) hF
    refine lv_aload_n X.1 X.2.1 dX2_spareBits_11 rfl (lv_at hl 0 rfl) ?_
    refine lv_aload_n X.1 X.2.1 dX2_spareBits_12 rfl (lv_at hl 0 rfl) ?_
    obtain ⟨v4, e5, hF⟩ := hp_b hF
    refine hp_geti X Y (C := RX2) (T := TX2) (N := 2) (ci := 2) (k := 1) rfl inX2_spareBits_X2 (by decide) lkX2_spareBits_f15 e5 dX2_spareBits_13 ?_
    refine lv_iconst (v := 1) X.1 X.2.1 dX2_spareBits_16 (by decide) ?_
    refine lv_isub X.1 X.2.1 dX2_spareBits_17 ?_
    obtain ⟨v7, e6, hF⟩ := hp_b hF
    refine hp_ci Y (hp_runV X Y (ci := 2) (As := [.int (v4 - (1 : Int32))]) (n := 1) (T := TX2) (N := 2) (mX2_limb l G e6) rfl (oX2_limb e6) gX2_spareBits_X2_limb rfl rfl rfl ndX2_limb ⟨Nat.le_of_ble_eq_true rfl, Nat.le_of_ble_eq_true rfl⟩ rfl hl.1 rfl (Nat.le_of_ble_eq_true rfl) dX2_spareBits_18 ⟨Nat.zero_le _, Nat.zero_le _⟩) (fun H locs Y => ?_)
    obtain ⟨v9, e8, hF⟩ := hp_b hF
    refine hp_ci Y (hp_runS X Y (As := [.int v7]) (n := 1) (mJ6_numberOfLeadingZeros_0f7a4 l G e8) gX2_spareBits_J6_numberOfLeadingZeros_0f7a4 rfl rfl rfl ndJ6_numberOfLeadingZeros_0f7a4 ⟨Nat.le_of_ble_eq_true rfl, Nat.le_of_ble_eq_true rfl⟩ rfl hl.1 rfl (Nat.le_of_ble_eq_true rfl) dX2_spareBits_21 ⟨Nat.zero_le _, Nat.zero_le _⟩) (fun H locs Y => ?_)
    refine lv_iconst (v := 2) X.1 X.2.1 dX2_spareBits_24 (by decide) ?_
    refine lv_isub X.1 X.2.1 dX2_spareBits_25 ?_
    cases hF
    exact hp_ri X Y rfl rfl dX2_spareBits_26
  · have hF := hp_ifp (c3) hF
    refine lv_iconst (v := 0) X.1 X.2.1 dX2_spareBits_7 (by decide) ?_
    refine lv_goto (tgt := 26) X.1 X.2.1 dX2_spareBits_8 (by decide) ?_
    cases hF
    exact hp_ri X Y rfl rfl dX2_spareBits_26

/-! WholeNumbers$Natural.bitLength -/
def rmX2_bitLength : Room := { frames := 2, cells := 0, slots := 0, locals := 41 }
def fX2_bitLength (x0 : Nat) (h : hp_H) : Option Int32 :=
  if hp_o h x0 2 = true then
  (hp_gi h x0 2 1).bind fun v1 =>
  (fX2_spareBits x0 h).bind fun v4 =>
  some ((v1 * (30 : Int32)) - v4)
  else none
theorem inX2_bitLength_X2 : ∀ w ∈ wsX20, w ∈ wsX2_bitLength := by decide +kernel
theorem lkX2_bitLength_f15 : Cond.fieldLink RX2 15 (TX2 1).1 (TX2 1).2.1 (TX2 1).2.2.1 ∈ wsX2_bitLength := by decide +kernel
theorem ndX2_bitLength : yX2_bitLength.cls ≠ "java/lang/invoke/MethodHandle" ∧ yX2_bitLength.cls ≠ "java/lang/invoke/VarHandle" ∧ (parseMethodDescriptor yX2_bitLength.desc).map (fun d => d.parameters.length) = some 0 := by decide +kernel
theorem oX2_bitLength {x0 : Nat} {h : hp_H} {r : Int32} (hF : fX2_bitLength x0 h = some r) : hp_o h x0 2 = true := by
  unfold fX2_bitLength at hF
  exact (hp_ift hF).1
set_option maxRecDepth 100000 in
set_option maxHeartbeats 4000000 in
theorem mX2_bitLength (l : Launch) (G : hp_G) {x0 : Nat} {h : hp_H} {r : Int32} (hF : fX2_bitLength x0 h = some r) : Met l yX2_bitLength wsX2_bitLength rmX2_bitLength (va_Pc [.ref x0] (hp_S G h)) (va_Qi (fun r' u => r' = r ∧ u = h) (hp_B G h) (hp_A h)) 0 0 (hp_A h) := by
  refine hp_met (cc := cX2_bitLength) (nL := 1) (ret := (some .int)) (by decide) rfl ?_
  intro p e s m below meth c X Y
  have hl := lv_entry ([.ref x0]) (n := 1) (Nat.le_of_ble_eq_true rfl)
  rw [lg_entry_eq]
  generalize (lg_sl ([.ref x0]) ++ List.replicate (1 - (lg_sl ([.ref x0])).length) Slot.unset).toArray = ls at hl ⊢
  have hl : lv_has ls 1 [(0, .ref x0)] := hl
  unfold fX2_bitLength at hF
  obtain ⟨ho, hF⟩ := hp_ift hF
  refine lv_aload_n X.1 X.2.1 dX2_bitLength_0 rfl (lv_at hl 0 rfl) ?_
  obtain ⟨v1, e2, hF⟩ := hp_b hF
  refine hp_geti X Y (C := RX2) (T := TX2) (N := 2) (ci := 2) (k := 1) rfl inX2_bitLength_X2 (by decide) lkX2_bitLength_f15 e2 dX2_bitLength_1 ?_
  refine lv_bipush (v := 30) X.1 X.2.1 dX2_bitLength_4 (by decide) ?_
  refine lv_imul X.1 X.2.1 dX2_bitLength_6 ?_
  refine lv_aload_n X.1 X.2.1 dX2_bitLength_7 rfl (lv_at hl 0 rfl) ?_
  obtain ⟨v4, e3, hF⟩ := hp_b hF
  refine hp_ci Y (hp_runV X Y (ci := 2) (As := []) (n := 0) (T := TX2) (N := 2) (mX2_spareBits l G e3) rfl (oX2_spareBits e3) gX2_bitLength_X2_spareBits rfl rfl rfl ndX2_spareBits ⟨Nat.le_of_ble_eq_true rfl, Nat.le_of_ble_eq_true rfl⟩ rfl hl.1 rfl (Nat.le_of_ble_eq_true rfl) dX2_bitLength_8 ⟨Nat.zero_le _, Nat.zero_le _⟩) (fun H locs Y => ?_)
  refine lv_isub X.1 X.2.1 dX2_bitLength_11 ?_
  cases hF
  exact hp_ri X Y rfl rfl dX2_bitLength_12

/-! WholeNumbers$Natural.limbFrom -/
def rmX2_limbFrom : Room := { frames := 1, cells := 0, slots := 0, locals := 21 }
def fX2_limbFrom (x0 : Nat) (x1 : Int32) (h : hp_H) : Option Int32 :=
  if hp_o h x0 2 = true then
  (some (x1 / (30 : Int32))).bind fun v1 =>
  (some (hp_irem x1 (30 : Int32))).bind fun v3 =>
  (fX2_limb x0 v1 h).bind fun v6 =>
  (fX2_limb x0 (v1 + (1 : Int32)) h).bind fun v8 =>
  some (((hp_iushr v6 v3) ||| (hp_ishl v8 ((30 : Int32) - v3))) &&& (1073741823 : Int32))
  else none
theorem lkX2_limbFrom_c32 : Cond.constant RX2 32 (1073741823) ∈ wsX2_limbFrom := by decide +kernel
theorem ndX2_limbFrom : yX2_limbFrom.cls ≠ "java/lang/invoke/MethodHandle" ∧ yX2_limbFrom.cls ≠ "java/lang/invoke/VarHandle" ∧ (parseMethodDescriptor yX2_limbFrom.desc).map (fun d => d.parameters.length) = some 1 := by decide +kernel
theorem oX2_limbFrom {x0 : Nat} {x1 : Int32} {h : hp_H} {r : Int32} (hF : fX2_limbFrom x0 x1 h = some r) : hp_o h x0 2 = true := by
  unfold fX2_limbFrom at hF
  exact (hp_ift hF).1
set_option maxRecDepth 100000 in
set_option maxHeartbeats 4000000 in
theorem mX2_limbFrom (l : Launch) (G : hp_G) {x0 : Nat} {x1 : Int32} {h : hp_H} {r : Int32} (hF : fX2_limbFrom x0 x1 h = some r) : Met l yX2_limbFrom wsX2_limbFrom rmX2_limbFrom (va_Pc [.ref x0, .int x1] (hp_S G h)) (va_Qi (fun r' u => r' = r ∧ u = h) (hp_B G h) (hp_A h)) 0 0 (hp_A h) := by
  refine hp_met (cc := cX2_limbFrom) (nL := 4) (ret := (some .int)) (by decide) rfl ?_
  intro p e s m below meth c X Y
  have hl := lv_entry ([.ref x0, .int x1]) (n := 4) (Nat.le_of_ble_eq_true rfl)
  rw [lg_entry_eq]
  generalize (lg_sl ([.ref x0, .int x1]) ++ List.replicate (4 - (lg_sl ([.ref x0, .int x1])).length) Slot.unset).toArray = ls at hl ⊢
  have hl : lv_has ls 4 [(0, .ref x0), (1, .int x1)] := hl
  unfold fX2_limbFrom at hF
  obtain ⟨ho, hF⟩ := hp_ift hF
  refine lv_iload_n X.1 X.2.1 dX2_limbFrom_0 rfl (lv_at hl 1 rfl) ?_
  refine lv_bipush (v := 30) X.1 X.2.1 dX2_limbFrom_1 (by decide) ?_
  refine lv_idiv X.1 X.2.1 dX2_limbFrom_3 (by decide) ?_
  obtain ⟨v1, e2, hF⟩ := hp_b hF
  refine hp_ti (Option.some.inj e2) ?_
  refine lv_istore_n (lv' := [(2, .int v1), (0, .ref x0), (1, .int x1)]) X.1 X.2.1 dX2_limbFrom_4 rfl hl (by decide) rfl (fun ls hl => ?_)
  refine lv_iload_n X.1 X.2.1 dX2_limbFrom_5 rfl (lv_at hl 2 rfl) ?_
  refine lv_bipush (v := 30) X.1 X.2.1 dX2_limbFrom_6 (by decide) ?_
  refine lv_irem X.1 X.2.1 dX2_limbFrom_8 (by decide) ?_
  obtain ⟨v3, e4, hF⟩ := hp_b hF
  refine hp_ti (Option.some.inj e4) ?_
  refine lv_istore_n (lv' := [(3, .int v3), (2, .int v1), (0, .ref x0), (1, .int x1)]) X.1 X.2.1 dX2_limbFrom_9 rfl hl (by decide) rfl (fun ls hl => ?_)
  refine lv_aload_n X.1 X.2.1 dX2_limbFrom_10 rfl (lv_at hl 2 rfl) ?_
  refine lv_iload_n X.1 X.2.1 dX2_limbFrom_11 rfl (lv_at hl 1 rfl) ?_
  obtain ⟨v6, e5, hF⟩ := hp_b hF
  refine hp_ci Y (hp_runV X Y (ci := 2) (As := [.int v1]) (n := 1) (T := TX2) (N := 2) (mX2_limb l G e5) rfl (oX2_limb e5) gX2_limbFrom_X2_limb rfl rfl rfl ndX2_limb ⟨Nat.le_of_ble_eq_true rfl, Nat.le_of_ble_eq_true rfl⟩ rfl hl.1 rfl (Nat.le_of_ble_eq_true rfl) dX2_limbFrom_12 ⟨Nat.zero_le _, Nat.zero_le _⟩) (fun H locs Y => ?_)
  refine lv_iload_n X.1 X.2.1 dX2_limbFrom_15 rfl (lv_at hl 0 rfl) ?_
  refine lv_iushr (v := hp_iushr v6 v3) X.1 X.2.1 dX2_limbFrom_16 rfl ?_
  refine lv_aload_n X.1 X.2.1 dX2_limbFrom_17 rfl (lv_at hl 2 rfl) ?_
  refine lv_iload_n X.1 X.2.1 dX2_limbFrom_18 rfl (lv_at hl 1 rfl) ?_
  refine lv_iconst (v := 1) X.1 X.2.1 dX2_limbFrom_19 (by decide) ?_
  refine lv_iadd X.1 X.2.1 dX2_limbFrom_20 ?_
  obtain ⟨v8, e7, hF⟩ := hp_b hF
  refine hp_ci Y (hp_runV X Y (ci := 2) (As := [.int (v1 + (1 : Int32))]) (n := 1) (T := TX2) (N := 2) (mX2_limb l G e7) rfl (oX2_limb e7) gX2_limbFrom_X2_limb rfl rfl rfl ndX2_limb ⟨Nat.le_of_ble_eq_true rfl, Nat.le_of_ble_eq_true rfl⟩ rfl hl.1 rfl (Nat.le_of_ble_eq_true rfl) dX2_limbFrom_21 ⟨Nat.zero_le _, Nat.zero_le _⟩) (fun H locs Y => ?_)
  refine lv_bipush (v := 30) X.1 X.2.1 dX2_limbFrom_24 (by decide) ?_
  refine lv_iload_n X.1 X.2.1 dX2_limbFrom_26 rfl (lv_at hl 0 rfl) ?_
  refine lv_isub X.1 X.2.1 dX2_limbFrom_27 ?_
  refine lv_ishl X.1 X.2.1 dX2_limbFrom_28 ?_
  refine lv_ior X.1 X.2.1 dX2_limbFrom_29 ?_
  refine lv_ldc (v := 1073741823) X.1 X.2.1 X.2.2.2.1 (X.2.2.2.2.1 _ lkX2_limbFrom_c32) dX2_limbFrom_30 ?_
  refine lv_iand X.1 X.2.1 dX2_limbFrom_32 ?_
  cases hF
  exact hp_ri X Y rfl rfl dX2_limbFrom_33

/-! WholeNumbers$Natural.anyBitBelow -/
def rmX2_anyBitBelow : Room := { frames := 1, cells := 0, slots := 0, locals := 21 }
def bX2_anyBitBelow_37  (x0 : Nat) (x1 : Int32) (x2 : Int32)  (h : hp_H) : Option Int32 :=
  (fX2_limb x0 x2 h).bind fun v2 =>
  if (v2 &&& ((hp_ishl (1 : Int32) (hp_irem x1 (30 : Int32))) - (1 : Int32))) = 0 then (
    some (0 : Int32))
  else (
    some (1 : Int32))
def bX2_anyBitBelow_7  (x0 : Nat) (x1 : Int32) (x2 : Int32) (h : hp_H) : Nat → Int32 → Option Int32
  | 0, _ => none
  | n + 1, x3 =>
  if x2 ≤ x3 then (
    bX2_anyBitBelow_37 x0 x1 x2 h)
  else (
    (hp_gi h x0 2 1).bind fun v2 =>
    if v2 ≤ x3 then (
      bX2_anyBitBelow_37 x0 x1 x2 h)
    else (
      (hp_gr h x0 2 0).bind fun v5 =>
      (hp_ai h 0 v5 x3).bind fun v7 =>
      if v7 = 0 then (
        (some (x3 + (1 : Int32))).bind fun v10 =>
        bX2_anyBitBelow_7 x0 x1 x2 h n v10)
      else (
        some (1 : Int32))))
def fX2_anyBitBelow (x0 : Nat) (x1 : Int32) (h : hp_H) : Option Int32 :=
  if hp_o h x0 2 = true then
  (some (x1 / (30 : Int32))).bind fun v1 =>
  bX2_anyBitBelow_7 x0 x1 v1 h hp_n (0 : Int32)
  else none
theorem inX2_anyBitBelow_X2 : ∀ w ∈ wsX20, w ∈ wsX2_anyBitBelow := by decide +kernel
theorem lkX2_anyBitBelow_f15 : Cond.fieldLink RX2 15 (TX2 1).1 (TX2 1).2.1 (TX2 1).2.2.1 ∈ wsX2_anyBitBelow := by decide +kernel
theorem lkX2_anyBitBelow_f9 : Cond.fieldLink RX2 9 (TX2 0).1 (TX2 0).2.1 (TX2 0).2.2.1 ∈ wsX2_anyBitBelow := by decide +kernel
theorem ndX2_anyBitBelow : yX2_anyBitBelow.cls ≠ "java/lang/invoke/MethodHandle" ∧ yX2_anyBitBelow.cls ≠ "java/lang/invoke/VarHandle" ∧ (parseMethodDescriptor yX2_anyBitBelow.desc).map (fun d => d.parameters.length) = some 1 := by decide +kernel
set_option maxRecDepth 100000 in
set_option maxHeartbeats 4000000 in
theorem wX2_anyBitBelow_37 {p : Program} {l : Launch} {e : Env} {s : State} {m : MethodId} {args : Array Value} {below : List Frame} {meth : Method} {c : Code} {G : hp_G} {h0 : hp_H} {r : Int32} (X : hp_X p s m args meth c cX2_anyBitBelow 4 RX2 wsX2_anyBitBelow (some .boolean) G)  {x0 : Nat} {x1 : Int32} {x2 : Int32}    {H : Heap} {locs : List Loc} {ls : Array Slot} (Y : hp_Y G h0 h0 s H locs) (hl : lv_has ls 4 [(0, .ref x0), (1, .int x1), (2, .int x2)]) (hF : bX2_anyBitBelow_37 x0 x1 x2 h0 = some r) : W p l e rmX2_anyBitBelow s m args below meth c H locs 0 0 (MQ below (va_Qi (fun r' u => r' = r ∧ u = h0) (hp_B G h0) (hp_A h0)) args s 0 0 (hp_A h0)) (F0 m 37 ls []) := by
  unfold bX2_anyBitBelow_37 at hF
  refine lv_aload_n X.1 X.2.1 dX2_anyBitBelow_37 rfl (lv_at hl 0 rfl) ?_
  refine lv_iload_n X.1 X.2.1 dX2_anyBitBelow_38 rfl (lv_at hl 2 rfl) ?_
  obtain ⟨v2, e1, hF⟩ := hp_b hF
  refine hp_ci Y (hp_runV X Y (ci := 2) (As := [.int x2]) (n := 1) (T := TX2) (N := 2) (mX2_limb l G e1) rfl (oX2_limb e1) gX2_anyBitBelow_X2_limb rfl rfl rfl ndX2_limb ⟨Nat.le_of_ble_eq_true rfl, Nat.le_of_ble_eq_true rfl⟩ rfl hl.1 rfl (Nat.le_of_ble_eq_true rfl) dX2_anyBitBelow_39 ⟨Nat.zero_le _, Nat.zero_le _⟩) (fun H locs Y => ?_)
  refine lv_iconst (v := 1) X.1 X.2.1 dX2_anyBitBelow_42 (by decide) ?_
  refine lv_iload_n X.1 X.2.1 dX2_anyBitBelow_43 rfl (lv_at hl 1 rfl) ?_
  refine lv_bipush (v := 30) X.1 X.2.1 dX2_anyBitBelow_44 (by decide) ?_
  refine lv_irem X.1 X.2.1 dX2_anyBitBelow_46 (by decide) ?_
  refine lv_ishl X.1 X.2.1 dX2_anyBitBelow_47 ?_
  refine lv_iconst (v := 1) X.1 X.2.1 dX2_anyBitBelow_48 (by decide) ?_
  refine lv_isub X.1 X.2.1 dX2_anyBitBelow_49 ?_
  refine lv_iand X.1 X.2.1 dX2_anyBitBelow_50 ?_
  refine lv_if_eq (tgt := 58) X.1 X.2.1 dX2_anyBitBelow_51 (by decide) (fun c3 => ?_) (fun c3 => ?_)
  · have hF := hp_ifp (c3) hF
    refine lv_iconst (v := 0) X.1 X.2.1 dX2_anyBitBelow_58 (by decide) ?_
    cases hF
    exact hp_ri X Y rfl rfl dX2_anyBitBelow_59
  · have hF := hp_ifn (c3) hF
    refine lv_iconst (v := 1) X.1 X.2.1 dX2_anyBitBelow_54 (by decide) ?_
    refine lv_goto (tgt := 59) X.1 X.2.1 dX2_anyBitBelow_55 (by decide) ?_
    cases hF
    exact hp_ri X Y rfl rfl dX2_anyBitBelow_59
set_option maxRecDepth 100000 in
set_option maxHeartbeats 4000000 in
theorem wX2_anyBitBelow_7 {p : Program} {l : Launch} {e : Env} {s : State} {m : MethodId} {args : Array Value} {below : List Frame} {meth : Method} {c : Code} {G : hp_G} {h0 : hp_H} {r : Int32} (X : hp_X p s m args meth c cX2_anyBitBelow 4 RX2 wsX2_anyBitBelow (some .boolean) G)  {x0 : Nat} {x1 : Int32} {x2 : Int32}   : ∀ (n : Nat) {x3 : Int32} {H : Heap} {locs : List Loc} {ls : Array Slot} (Y : hp_Y G h0 h0 s H locs) (hl : lv_has ls 4 [(0, .ref x0), (1, .int x1), (2, .int x2), (3, .int x3)]) (hF : bX2_anyBitBelow_7 x0 x1 x2 h0 n x3 = some r), W p l e rmX2_anyBitBelow s m args below meth c H locs 0 0 (MQ below (va_Qi (fun r' u => r' = r ∧ u = h0) (hp_B G h0) (hp_A h0)) args s 0 0 (hp_A h0)) (F0 m 7 ls []) := by
  intro n
  induction n with
  | zero =>
    intro x3 H locs ls Y hl hF
    exact absurd (show none = some _ from hF) (by simp)
  | succ n ih =>
    intro x3 H locs ls Y hl hF
    rw [bX2_anyBitBelow_7] at hF
    refine lv_iload_n X.1 X.2.1 dX2_anyBitBelow_7 rfl (lv_at hl 3 rfl) ?_
    refine lv_iload_n X.1 X.2.1 dX2_anyBitBelow_8 rfl (lv_at hl 2 rfl) ?_
    refine lv_icmp_ge (tgt := 37) X.1 X.2.1 dX2_anyBitBelow_9 (by decide) (fun c1 => ?_) (fun c1 => ?_)
    · have hF := hp_ifp (c1) hF
      exact wX2_anyBitBelow_37 X  Y (lv_sub hl [0, 1, 2] rfl) hF
    · have hF := hp_ifn (c1) hF
      refine lv_iload_n X.1 X.2.1 dX2_anyBitBelow_12 rfl (lv_at hl 3 rfl) ?_
      refine lv_aload_n X.1 X.2.1 dX2_anyBitBelow_13 rfl (lv_at hl 0 rfl) ?_
      obtain ⟨v2, e3, hF⟩ := hp_b hF
      refine hp_geti X Y (C := RX2) (T := TX2) (N := 2) (ci := 2) (k := 1) rfl inX2_anyBitBelow_X2 (by decide) lkX2_anyBitBelow_f15 e3 dX2_anyBitBelow_14 ?_
      refine lv_icmp_ge (tgt := 37) X.1 X.2.1 dX2_anyBitBelow_17 (by decide) (fun c4 => ?_) (fun c4 => ?_)
      · have hF := hp_ifp (c4) hF
        exact wX2_anyBitBelow_37 X  Y (lv_sub hl [0, 1, 2] rfl) hF
      · have hF := hp_ifn (c4) hF
        refine lv_aload_n X.1 X.2.1 dX2_anyBitBelow_20 rfl (lv_at hl 0 rfl) ?_
        obtain ⟨v5, e6, hF⟩ := hp_b hF
        refine hp_getr X Y (C := RX2) (T := TX2) (N := 2) (ci := 2) (k := 0) rfl inX2_anyBitBelow_X2 (by decide) lkX2_anyBitBelow_f9 e6 dX2_anyBitBelow_21 ?_
        refine lv_iload_n X.1 X.2.1 dX2_anyBitBelow_24 rfl (lv_at hl 3 rfl) ?_
        obtain ⟨v7, e8, hF⟩ := hp_b hF
        refine hp_iald X Y e8 dX2_anyBitBelow_25 ?_
        refine lv_if_eq (tgt := 31) X.1 X.2.1 dX2_anyBitBelow_26 (by decide) (fun c9 => ?_) (fun c9 => ?_)
        · have hF := hp_ifp (c9) hF
          obtain ⟨v10, e11, hF⟩ := hp_b hF
          refine lv_iinc (v := v10) (lv' := [(3, .int v10), (0, .ref x0), (1, .int x1), (2, .int x2)]) X.1 X.2.1 dX2_anyBitBelow_31 hl (k := 3) rfl (Option.some.inj e11) (by decide) rfl (fun ls hl => ?_)
          refine lv_goto (tgt := 7) X.1 X.2.1 dX2_anyBitBelow_34 (by decide) ?_
          exact ih Y (lv_sub hl [1, 2, 3, 0] rfl) hF
        · have hF := hp_ifn (c9) hF
          refine lv_iconst (v := 1) X.1 X.2.1 dX2_anyBitBelow_29 (by decide) ?_
          cases hF
          exact hp_ri X Y rfl rfl dX2_anyBitBelow_30
theorem oX2_anyBitBelow {x0 : Nat} {x1 : Int32} {h : hp_H} {r : Int32} (hF : fX2_anyBitBelow x0 x1 h = some r) : hp_o h x0 2 = true := by
  unfold fX2_anyBitBelow at hF
  exact (hp_ift hF).1
set_option maxRecDepth 100000 in
set_option maxHeartbeats 4000000 in
theorem mX2_anyBitBelow (l : Launch) (G : hp_G) {x0 : Nat} {x1 : Int32} {h : hp_H} {r : Int32} (hF : fX2_anyBitBelow x0 x1 h = some r) : Met l yX2_anyBitBelow wsX2_anyBitBelow rmX2_anyBitBelow (va_Pc [.ref x0, .int x1] (hp_S G h)) (va_Qi (fun r' u => r' = r ∧ u = h) (hp_B G h) (hp_A h)) 0 0 (hp_A h) := by
  refine hp_met (cc := cX2_anyBitBelow) (nL := 4) (ret := (some .boolean)) (by decide) rfl ?_
  intro p e s m below meth c X Y
  have hl := lv_entry ([.ref x0, .int x1]) (n := 4) (Nat.le_of_ble_eq_true rfl)
  rw [lg_entry_eq]
  generalize (lg_sl ([.ref x0, .int x1]) ++ List.replicate (4 - (lg_sl ([.ref x0, .int x1])).length) Slot.unset).toArray = ls at hl ⊢
  have hl : lv_has ls 4 [(0, .ref x0), (1, .int x1)] := hl
  unfold fX2_anyBitBelow at hF
  obtain ⟨ho, hF⟩ := hp_ift hF
  refine lv_iload_n X.1 X.2.1 dX2_anyBitBelow_0 rfl (lv_at hl 1 rfl) ?_
  refine lv_bipush (v := 30) X.1 X.2.1 dX2_anyBitBelow_1 (by decide) ?_
  refine lv_idiv X.1 X.2.1 dX2_anyBitBelow_3 (by decide) ?_
  obtain ⟨v1, e2, hF⟩ := hp_b hF
  refine hp_ti (Option.some.inj e2) ?_
  refine lv_istore_n (lv' := [(2, .int v1), (0, .ref x0), (1, .int x1)]) X.1 X.2.1 dX2_anyBitBelow_4 rfl hl (by decide) rfl (fun ls hl => ?_)
  refine lv_iconst (v := 0) X.1 X.2.1 dX2_anyBitBelow_5 (by decide) ?_
  refine lv_istore_n (lv' := [(3, .int (0 : Int32)), (2, .int v1), (0, .ref x0), (1, .int x1)]) X.1 X.2.1 dX2_anyBitBelow_6 rfl hl (by decide) rfl (fun ls hl => ?_)
  exact wX2_anyBitBelow_7 X  hp_n Y (lv_sub hl [2, 3, 1, 0] rfl) hF

/-! WholeNumbers$Natural.lowestLong -/
def rmX2_lowestLong : Room := { frames := 1, cells := 0, slots := 0, locals := 21 }
def fX2_lowestLong (x0 : Nat) (h : hp_H) : Option Int64 :=
  if hp_o h x0 2 = true then
  (fX2_limb x0 (0 : Int32) h).bind fun v2 =>
  (fX2_limb x0 (1 : Int32) h).bind fun v4 =>
  (fX2_limb x0 (2 : Int32) h).bind fun v6 =>
  some (((Int32.toInt64 v2) ||| (hp_lshl (Int32.toInt64 v4) (30 : Int32))) ||| (hp_lshl (Int32.toInt64 v6) (60 : Int32)))
  else none
theorem ndX2_lowestLong : yX2_lowestLong.cls ≠ "java/lang/invoke/MethodHandle" ∧ yX2_lowestLong.cls ≠ "java/lang/invoke/VarHandle" ∧ (parseMethodDescriptor yX2_lowestLong.desc).map (fun d => d.parameters.length) = some 0 := by decide +kernel
theorem oX2_lowestLong {x0 : Nat} {h : hp_H} {r : Int64} (hF : fX2_lowestLong x0 h = some r) : hp_o h x0 2 = true := by
  unfold fX2_lowestLong at hF
  exact (hp_ift hF).1
set_option maxRecDepth 100000 in
set_option maxHeartbeats 4000000 in
theorem mX2_lowestLong (l : Launch) (G : hp_G) {x0 : Nat} {h : hp_H} {r : Int64} (hF : fX2_lowestLong x0 h = some r) : Met l yX2_lowestLong wsX2_lowestLong rmX2_lowestLong (va_Pc [.ref x0] (hp_S G h)) (va_Ql (fun r' u => r' = r ∧ u = h) (hp_B G h) (hp_A h)) 0 0 (hp_A h) := by
  refine hp_met (cc := cX2_lowestLong) (nL := 1) (ret := (some .long)) (by decide) rfl ?_
  intro p e s m below meth c X Y
  have hl := lv_entry ([.ref x0]) (n := 1) (Nat.le_of_ble_eq_true rfl)
  rw [lg_entry_eq]
  generalize (lg_sl ([.ref x0]) ++ List.replicate (1 - (lg_sl ([.ref x0])).length) Slot.unset).toArray = ls at hl ⊢
  have hl : lv_has ls 1 [(0, .ref x0)] := hl
  unfold fX2_lowestLong at hF
  obtain ⟨ho, hF⟩ := hp_ift hF
  refine lv_aload_n X.1 X.2.1 dX2_lowestLong_0 rfl (lv_at hl 0 rfl) ?_
  refine lv_iconst (v := 0) X.1 X.2.1 dX2_lowestLong_1 (by decide) ?_
  obtain ⟨v2, e1, hF⟩ := hp_b hF
  refine hp_ci Y (hp_runV X Y (ci := 2) (As := [.int (0 : Int32)]) (n := 1) (T := TX2) (N := 2) (mX2_limb l G e1) rfl (oX2_limb e1) gX2_lowestLong_X2_limb rfl rfl rfl ndX2_limb ⟨Nat.le_of_ble_eq_true rfl, Nat.le_of_ble_eq_true rfl⟩ rfl hl.1 rfl (Nat.le_of_ble_eq_true rfl) dX2_lowestLong_2 ⟨Nat.zero_le _, Nat.zero_le _⟩) (fun H locs Y => ?_)
  refine lv_i2l (v := Int32.toInt64 v2) X.1 X.2.1 dX2_lowestLong_5 rfl ?_
  refine lv_aload_n X.1 X.2.1 dX2_lowestLong_6 rfl (lv_at hl 0 rfl) ?_
  refine lv_iconst (v := 1) X.1 X.2.1 dX2_lowestLong_7 (by decide) ?_
  obtain ⟨v4, e3, hF⟩ := hp_b hF
  refine hp_ci Y (hp_runV X Y (ci := 2) (As := [.int (1 : Int32)]) (n := 1) (T := TX2) (N := 2) (mX2_limb l G e3) rfl (oX2_limb e3) gX2_lowestLong_X2_limb rfl rfl rfl ndX2_limb ⟨Nat.le_of_ble_eq_true rfl, Nat.le_of_ble_eq_true rfl⟩ rfl hl.1 rfl (Nat.le_of_ble_eq_true rfl) dX2_lowestLong_8 ⟨Nat.zero_le _, Nat.zero_le _⟩) (fun H locs Y => ?_)
  refine lv_i2l (v := Int32.toInt64 v4) X.1 X.2.1 dX2_lowestLong_11 rfl ?_
  refine lv_bipush (v := 30) X.1 X.2.1 dX2_lowestLong_12 (by decide) ?_
  refine lv_lshl (v := hp_lshl (Int32.toInt64 v4) (30 : Int32)) X.1 X.2.1 dX2_lowestLong_14 rfl ?_
  refine lv_lor X.1 X.2.1 dX2_lowestLong_15 ?_
  refine lv_aload_n X.1 X.2.1 dX2_lowestLong_16 rfl (lv_at hl 0 rfl) ?_
  refine lv_iconst (v := 2) X.1 X.2.1 dX2_lowestLong_17 (by decide) ?_
  obtain ⟨v6, e5, hF⟩ := hp_b hF
  refine hp_ci Y (hp_runV X Y (ci := 2) (As := [.int (2 : Int32)]) (n := 1) (T := TX2) (N := 2) (mX2_limb l G e5) rfl (oX2_limb e5) gX2_lowestLong_X2_limb rfl rfl rfl ndX2_limb ⟨Nat.le_of_ble_eq_true rfl, Nat.le_of_ble_eq_true rfl⟩ rfl hl.1 rfl (Nat.le_of_ble_eq_true rfl) dX2_lowestLong_18 ⟨Nat.zero_le _, Nat.zero_le _⟩) (fun H locs Y => ?_)
  refine lv_i2l (v := Int32.toInt64 v6) X.1 X.2.1 dX2_lowestLong_21 rfl ?_
  refine lv_bipush (v := 60) X.1 X.2.1 dX2_lowestLong_22 (by decide) ?_
  refine lv_lshl (v := hp_lshl (Int32.toInt64 v6) (60 : Int32)) X.1 X.2.1 dX2_lowestLong_24 rfl ?_
  refine lv_lor X.1 X.2.1 dX2_lowestLong_25 ?_
  cases hF
  exact hp_rj X Y rfl dX2_lowestLong_26

/-! WholeNumbers$Natural.order -/
def rmX2_order : Room := { frames := 0, cells := 0, slots := 0, locals := 0 }
def bX2_order_35  (x0 : Nat) (x1 : Nat) (h : hp_H) : Nat → Int32 → Option Int32
  | 0, _ => none
  | n + 1, x2 =>
  if x2 < 0 then (
    some (0 : Int32))
  else (
    (hp_gr h x0 2 0).bind fun v2 =>
    (hp_ai h 0 v2 x2).bind fun v4 =>
    (hp_gr h x1 2 0).bind fun v6 =>
    (hp_ai h 0 v6 x2).bind fun v8 =>
    if v4 = v8 then (
      (some (x2 + (-1 : Int32))).bind fun v11 =>
      bX2_order_35 x0 x1 h n v11)
    else (
      (hp_gr h x0 2 0).bind fun v13 =>
      (hp_ai h 0 v13 x2).bind fun v15 =>
      (hp_gr h x1 2 0).bind fun v17 =>
      (hp_ai h 0 v17 x2).bind fun v19 =>
      if v19 ≤ v15 then (
        some (1 : Int32))
      else (
        some (-1 : Int32))))
def fX2_order (x0 : Nat) (x1 : Nat) (h : hp_H) : Option Int32 :=
  if hp_o h x0 2 = true then
  (hp_gi h x0 2 1).bind fun v1 =>
  (hp_gi h x1 2 1).bind fun v3 =>
  if v1 = v3 then (
    (hp_gi h x0 2 1).bind fun v6 =>
    (some (v6 - (1 : Int32))).bind fun v8 =>
    bX2_order_35 x0 x1 h hp_n v8)
  else (
    (hp_gi h x0 2 1).bind fun v10 =>
    (hp_gi h x1 2 1).bind fun v12 =>
    if v12 ≤ v10 then (
      some (1 : Int32))
    else (
      some (-1 : Int32)))
  else none
theorem inX2_order_X2 : ∀ w ∈ wsX20, w ∈ wsX2_order := by decide +kernel
theorem lkX2_order_f9 : Cond.fieldLink RX2 9 (TX2 0).1 (TX2 0).2.1 (TX2 0).2.2.1 ∈ wsX2_order := by decide +kernel
theorem lkX2_order_f15 : Cond.fieldLink RX2 15 (TX2 1).1 (TX2 1).2.1 (TX2 1).2.2.1 ∈ wsX2_order := by decide +kernel
theorem ndX2_order : yX2_order.cls ≠ "java/lang/invoke/MethodHandle" ∧ yX2_order.cls ≠ "java/lang/invoke/VarHandle" ∧ (parseMethodDescriptor yX2_order.desc).map (fun d => d.parameters.length) = some 1 := by decide +kernel
set_option maxRecDepth 100000 in
set_option maxHeartbeats 4000000 in
theorem wX2_order_35 {p : Program} {l : Launch} {e : Env} {s : State} {m : MethodId} {args : Array Value} {below : List Frame} {meth : Method} {c : Code} {G : hp_G} {h0 : hp_H} {r : Int32} (X : hp_X p s m args meth c cX2_order 3 RX2 wsX2_order (some .int) G)  {x0 : Nat} {x1 : Nat}   : ∀ (n : Nat) {x2 : Int32} {H : Heap} {locs : List Loc} {ls : Array Slot} (Y : hp_Y G h0 h0 s H locs) (hl : lv_has ls 3 [(0, .ref x0), (1, .ref x1), (2, .int x2)]) (hF : bX2_order_35 x0 x1 h0 n x2 = some r), W p l e rmX2_order s m args below meth c H locs 0 0 (MQ below (va_Qi (fun r' u => r' = r ∧ u = h0) (hp_B G h0) (hp_A h0)) args s 0 0 (hp_A h0)) (F0 m 35 ls []) := by
  intro n
  induction n with
  | zero =>
    intro x2 H locs ls Y hl hF
    exact absurd (show none = some _ from hF) (by simp)
  | succ n ih =>
    intro x2 H locs ls Y hl hF
    rw [bX2_order_35] at hF
    refine lv_iload_n X.1 X.2.1 dX2_order_35 rfl (lv_at hl 2 rfl) ?_
    refine lv_if_lt (tgt := 81) X.1 X.2.1 dX2_order_36 (by decide) (fun c1 => ?_) (fun c1 => ?_)
    · have hF := hp_ifp (c1) hF
      refine lv_iconst (v := 0) X.1 X.2.1 dX2_order_81 (by decide) ?_
      cases hF
      exact hp_ri X Y rfl rfl dX2_order_82
    · have hF := hp_ifn (c1) hF
      refine lv_aload_n X.1 X.2.1 dX2_order_39 rfl (lv_at hl 0 rfl) ?_
      obtain ⟨v2, e3, hF⟩ := hp_b hF
      refine hp_getr X Y (C := RX2) (T := TX2) (N := 2) (ci := 2) (k := 0) rfl inX2_order_X2 (by decide) lkX2_order_f9 e3 dX2_order_40 ?_
      refine lv_iload_n X.1 X.2.1 dX2_order_43 rfl (lv_at hl 2 rfl) ?_
      obtain ⟨v4, e5, hF⟩ := hp_b hF
      refine hp_iald X Y e5 dX2_order_44 ?_
      refine lv_aload_n X.1 X.2.1 dX2_order_45 rfl (lv_at hl 1 rfl) ?_
      obtain ⟨v6, e7, hF⟩ := hp_b hF
      refine hp_getr X Y (C := RX2) (T := TX2) (N := 2) (ci := 2) (k := 0) rfl inX2_order_X2 (by decide) lkX2_order_f9 e7 dX2_order_46 ?_
      refine lv_iload_n X.1 X.2.1 dX2_order_49 rfl (lv_at hl 2 rfl) ?_
      obtain ⟨v8, e9, hF⟩ := hp_b hF
      refine hp_iald X Y e9 dX2_order_50 ?_
      refine lv_icmp_eq (tgt := 75) X.1 X.2.1 dX2_order_51 (by decide) (fun c10 => ?_) (fun c10 => ?_)
      · have hF := hp_ifp (c10) hF
        obtain ⟨v11, e12, hF⟩ := hp_b hF
        refine lv_iinc (v := v11) (lv' := [(2, .int v11), (0, .ref x0), (1, .ref x1)]) X.1 X.2.1 dX2_order_75 hl (k := 2) rfl (Option.some.inj e12) (by decide) rfl (fun ls hl => ?_)
        refine lv_goto (tgt := 35) X.1 X.2.1 dX2_order_78 (by decide) ?_
        exact ih Y (lv_sub hl [1, 2, 0] rfl) hF
      · have hF := hp_ifn (c10) hF
        refine lv_aload_n X.1 X.2.1 dX2_order_54 rfl (lv_at hl 0 rfl) ?_
        obtain ⟨v13, e14, hF⟩ := hp_b hF
        refine hp_getr X Y (C := RX2) (T := TX2) (N := 2) (ci := 2) (k := 0) rfl inX2_order_X2 (by decide) lkX2_order_f9 e14 dX2_order_55 ?_
        refine lv_iload_n X.1 X.2.1 dX2_order_58 rfl (lv_at hl 2 rfl) ?_
        obtain ⟨v15, e16, hF⟩ := hp_b hF
        refine hp_iald X Y e16 dX2_order_59 ?_
        refine lv_aload_n X.1 X.2.1 dX2_order_60 rfl (lv_at hl 1 rfl) ?_
        obtain ⟨v17, e18, hF⟩ := hp_b hF
        refine hp_getr X Y (C := RX2) (T := TX2) (N := 2) (ci := 2) (k := 0) rfl inX2_order_X2 (by decide) lkX2_order_f9 e18 dX2_order_61 ?_
        refine lv_iload_n X.1 X.2.1 dX2_order_64 rfl (lv_at hl 2 rfl) ?_
        obtain ⟨v19, e20, hF⟩ := hp_b hF
        refine hp_iald X Y e20 dX2_order_65 ?_
        refine lv_icmp_ge (tgt := 73) X.1 X.2.1 dX2_order_66 (by decide) (fun c21 => ?_) (fun c21 => ?_)
        · have hF := hp_ifp (c21) hF
          refine lv_iconst (v := 1) X.1 X.2.1 dX2_order_73 (by decide) ?_
          cases hF
          exact hp_ri X Y rfl rfl dX2_order_74
        · have hF := hp_ifn (c21) hF
          refine lv_iconst (v := -1) X.1 X.2.1 dX2_order_69 (by decide) ?_
          refine lv_goto (tgt := 74) X.1 X.2.1 dX2_order_70 (by decide) ?_
          cases hF
          exact hp_ri X Y rfl rfl dX2_order_74
theorem oX2_order {x0 : Nat} {x1 : Nat} {h : hp_H} {r : Int32} (hF : fX2_order x0 x1 h = some r) : hp_o h x0 2 = true := by
  unfold fX2_order at hF
  exact (hp_ift hF).1
set_option maxRecDepth 100000 in
set_option maxHeartbeats 4000000 in
theorem mX2_order (l : Launch) (G : hp_G) {x0 : Nat} {x1 : Nat} {h : hp_H} {r : Int32} (hF : fX2_order x0 x1 h = some r) : Met l yX2_order wsX2_order rmX2_order (va_Pc [.ref x0, .ref x1] (hp_S G h)) (va_Qi (fun r' u => r' = r ∧ u = h) (hp_B G h) (hp_A h)) 0 0 (hp_A h) := by
  refine hp_met (cc := cX2_order) (nL := 3) (ret := (some .int)) (by decide) rfl ?_
  intro p e s m below meth c X Y
  have hl := lv_entry ([.ref x0, .ref x1]) (n := 3) (Nat.le_of_ble_eq_true rfl)
  rw [lg_entry_eq]
  generalize (lg_sl ([.ref x0, .ref x1]) ++ List.replicate (3 - (lg_sl ([.ref x0, .ref x1])).length) Slot.unset).toArray = ls at hl ⊢
  have hl : lv_has ls 3 [(0, .ref x0), (1, .ref x1)] := hl
  unfold fX2_order at hF
  obtain ⟨ho, hF⟩ := hp_ift hF
  refine lv_aload_n X.1 X.2.1 dX2_order_0 rfl (lv_at hl 0 rfl) ?_
  obtain ⟨v1, e2, hF⟩ := hp_b hF
  refine hp_geti X Y (C := RX2) (T := TX2) (N := 2) (ci := 2) (k := 1) rfl inX2_order_X2 (by decide) lkX2_order_f15 e2 dX2_order_1 ?_
  refine lv_aload_n X.1 X.2.1 dX2_order_4 rfl (lv_at hl 1 rfl) ?_
  obtain ⟨v3, e4, hF⟩ := hp_b hF
  refine hp_geti X Y (C := RX2) (T := TX2) (N := 2) (ci := 2) (k := 1) rfl inX2_order_X2 (by decide) lkX2_order_f15 e4 dX2_order_5 ?_
  refine lv_icmp_eq (tgt := 28) X.1 X.2.1 dX2_order_8 (by decide) (fun c5 => ?_) (fun c5 => ?_)
  · have hF := hp_ifp (c5) hF
    refine lv_aload_n X.1 X.2.1 dX2_order_28 rfl (lv_at hl 0 rfl) ?_
    obtain ⟨v6, e7, hF⟩ := hp_b hF
    refine hp_geti X Y (C := RX2) (T := TX2) (N := 2) (ci := 2) (k := 1) rfl inX2_order_X2 (by decide) lkX2_order_f15 e7 dX2_order_29 ?_
    refine lv_iconst (v := 1) X.1 X.2.1 dX2_order_32 (by decide) ?_
    refine lv_isub X.1 X.2.1 dX2_order_33 ?_
    obtain ⟨v8, e9, hF⟩ := hp_b hF
    refine hp_ti (Option.some.inj e9) ?_
    refine lv_istore_n (lv' := [(2, .int v8), (0, .ref x0), (1, .ref x1)]) X.1 X.2.1 dX2_order_34 rfl hl (by decide) rfl (fun ls hl => ?_)
    exact wX2_order_35 X  hp_n Y (lv_sub hl [1, 2, 0] rfl) hF
  · have hF := hp_ifn (c5) hF
    refine lv_aload_n X.1 X.2.1 dX2_order_11 rfl (lv_at hl 0 rfl) ?_
    obtain ⟨v10, e11, hF⟩ := hp_b hF
    refine hp_geti X Y (C := RX2) (T := TX2) (N := 2) (ci := 2) (k := 1) rfl inX2_order_X2 (by decide) lkX2_order_f15 e11 dX2_order_12 ?_
    refine lv_aload_n X.1 X.2.1 dX2_order_15 rfl (lv_at hl 1 rfl) ?_
    obtain ⟨v12, e13, hF⟩ := hp_b hF
    refine hp_geti X Y (C := RX2) (T := TX2) (N := 2) (ci := 2) (k := 1) rfl inX2_order_X2 (by decide) lkX2_order_f15 e13 dX2_order_16 ?_
    refine lv_icmp_ge (tgt := 26) X.1 X.2.1 dX2_order_19 (by decide) (fun c14 => ?_) (fun c14 => ?_)
    · have hF := hp_ifp (c14) hF
      refine lv_iconst (v := 1) X.1 X.2.1 dX2_order_26 (by decide) ?_
      cases hF
      exact hp_ri X Y rfl rfl dX2_order_27
    · have hF := hp_ifn (c14) hF
      refine lv_iconst (v := -1) X.1 X.2.1 dX2_order_22 (by decide) ?_
      refine lv_goto (tgt := 27) X.1 X.2.1 dX2_order_23 (by decide) ?_
      cases hF
      exact hp_ri X Y rfl rfl dX2_order_27

/-! WholeNumbers$Natural.take -/
def rmX2_take : Room := { frames := 1, cells := 0, slots := 0, locals := 48 }
def fX2_take (x0 : Nat) (x1 : Nat) (h : hp_H) : Option hp_H :=
  if hp_o h x0 2 = true then
  (hp_gr h x1 2 0).bind fun v1 =>
  (hp_gr h x0 2 0).bind fun v3 =>
  (hp_gi h x1 2 1).bind fun v5 =>
  (hp_cp h v1 v3 v5).bind fun h7 =>
  (hp_gi h7 x1 2 1).bind fun v9 =>
  (hp_pv h7 x0 2 1 (.int v9)).bind fun h11 =>
  some h11
  else none
theorem inX2_take_X2 : ∀ w ∈ wsX20, w ∈ wsX2_take := by decide +kernel
theorem lkX2_take_f9 : Cond.fieldLink RX2 9 (TX2 0).1 (TX2 0).2.1 (TX2 0).2.2.1 ∈ wsX2_take := by decide +kernel
theorem lkX2_take_f15 : Cond.fieldLink RX2 15 (TX2 1).1 (TX2 1).2.1 (TX2 1).2.2.1 ∈ wsX2_take := by decide +kernel
theorem lkX2_take_y33 : Cond.methodLink RX2 33 arraycopyName ∈ wsX2_take := by decide +kernel
theorem lkX2_take_yn : Cond.native arraycopyName ∈ wsX2_take := by decide +kernel
theorem lkX2_take_ys : Cond.static arraycopyName ∈ wsX2_take := by decide +kernel
theorem lkX2_take_yi : Cond.initialized "java/lang/System" ∈ wsX2_take := by decide +kernel
theorem ndX2_take : yX2_take.cls ≠ "java/lang/invoke/MethodHandle" ∧ yX2_take.cls ≠ "java/lang/invoke/VarHandle" ∧ (parseMethodDescriptor yX2_take.desc).map (fun d => d.parameters.length) = some 1 := by decide +kernel
theorem oX2_take {x0 : Nat} {x1 : Nat} {h h' : hp_H}  (hF : fX2_take x0 x1 h = some h') : hp_o h x0 2 = true := by
  unfold fX2_take at hF
  exact (hp_ift hF).1
set_option maxRecDepth 100000 in
set_option maxHeartbeats 4000000 in
theorem mX2_take (l : Launch) (G : hp_G) {x0 : Nat} {x1 : Nat} {h h' : hp_H}  (hF : fX2_take x0 x1 h = some h') : Met l yX2_take wsX2_take rmX2_take (va_Pc [.ref x0, .ref x1] (hp_S G h)) (va_Qv (fun u => u = h') (hp_B G h) (hp_A h)) 0 0 (hp_A h) := by
  refine hp_met (cc := cX2_take) (nL := 2) (ret := none) (by decide) rfl ?_
  intro p e s m below meth c X Y
  have hl := lv_entry ([.ref x0, .ref x1]) (n := 2) (Nat.le_of_ble_eq_true rfl)
  rw [lg_entry_eq]
  generalize (lg_sl ([.ref x0, .ref x1]) ++ List.replicate (2 - (lg_sl ([.ref x0, .ref x1])).length) Slot.unset).toArray = ls at hl ⊢
  have hl : lv_has ls 2 [(0, .ref x0), (1, .ref x1)] := hl
  unfold fX2_take at hF
  obtain ⟨ho, hF⟩ := hp_ift hF
  refine lv_aload_n X.1 X.2.1 dX2_take_0 rfl (lv_at hl 1 rfl) ?_
  obtain ⟨v1, e2, hF⟩ := hp_b hF
  refine hp_getr X Y (C := RX2) (T := TX2) (N := 2) (ci := 2) (k := 0) rfl inX2_take_X2 (by decide) lkX2_take_f9 e2 dX2_take_1 ?_
  refine lv_iconst (v := 0) X.1 X.2.1 dX2_take_4 (by decide) ?_
  refine lv_aload_n X.1 X.2.1 dX2_take_5 rfl (lv_at hl 0 rfl) ?_
  obtain ⟨v3, e4, hF⟩ := hp_b hF
  refine hp_getr X Y (C := RX2) (T := TX2) (N := 2) (ci := 2) (k := 0) rfl inX2_take_X2 (by decide) lkX2_take_f9 e4 dX2_take_6 ?_
  refine lv_iconst (v := 0) X.1 X.2.1 dX2_take_9 (by decide) ?_
  refine lv_aload_n X.1 X.2.1 dX2_take_10 rfl (lv_at hl 1 rfl) ?_
  obtain ⟨v5, e6, hF⟩ := hp_b hF
  refine hp_geti X Y (C := RX2) (T := TX2) (N := 2) (ci := 2) (k := 1) rfl inX2_take_X2 (by decide) lkX2_take_f15 e6 dX2_take_11 ?_
  obtain ⟨h7, e8, hF⟩ := hp_b hF
  refine hp_acp X Y hl.1 lkX2_take_y33 lkX2_take_yn lkX2_take_ys lkX2_take_yi (Nat.le_of_ble_eq_true rfl) (Nat.le_of_ble_eq_true rfl) e8 dX2_take_14 (fun H locs Y => ?_)
  refine lv_aload_n X.1 X.2.1 dX2_take_17 rfl (lv_at hl 0 rfl) ?_
  refine lv_aload_n X.1 X.2.1 dX2_take_18 rfl (lv_at hl 1 rfl) ?_
  obtain ⟨v9, e10, hF⟩ := hp_b hF
  refine hp_geti X Y (C := RX2) (T := TX2) (N := 2) (ci := 2) (k := 1) rfl inX2_take_X2 (by decide) lkX2_take_f15 e10 dX2_take_19 ?_
  obtain ⟨h11, e12, hF⟩ := hp_b hF
  refine hp_put X Y (C := RX2) (T := TX2) (N := 2) (ci := 2) (k := 1) (ty0 := tyX2) rfl inX2_take_X2 tyX2_ok nmX2 (by decide) lkX2_take_f15 rfl rfl rfl e12 dX2_take_22 (fun H locs Y => ?_)
  cases hF
  exact hp_rv X Y rfl dX2_take_25

/-! WholeNumbers$Natural.trim -/
def rmX2_trim : Room := { frames := 1, cells := 0, slots := 0, locals := 21 }
def bX2_trim_29  (x0 : Nat) (x2 : Int32)  (h : hp_H) : Option hp_H :=
  (hp_pv h x0 2 1 (.int (hp_max x2 (0 : Int32)))).bind fun h1 =>
  some h1
def bX2_trim_8  (x0 : Nat) : Nat → Int32 → hp_H → Option hp_H
  | 0, _, _ => none
  | n + 1, x2, h =>
  if x2 ≤ 0 then (
    bX2_trim_29 x0 x2 h)
  else (
    (hp_gr h x0 2 0).bind fun v2 =>
    (hp_ai h 0 v2 (x2 - (1 : Int32))).bind fun v4 =>
    if v4 = 0 then (
      (some (x2 + (-1 : Int32))).bind fun v7 =>
      bX2_trim_8 x0 n v7 h)
    else (
      bX2_trim_29 x0 x2 h))
def fX2_trim (x0 : Nat) (x1 : Int32) (h : hp_H) : Option hp_H :=
  if hp_o h x0 2 = true then
  (some (hp_min x1 (140 : Int32))).bind fun v1 =>
  bX2_trim_8 x0 hp_n v1 h
  else none
theorem inX2_trim_X2 : ∀ w ∈ wsX20, w ∈ wsX2_trim := by decide +kernel
theorem lkX2_trim_m49 : Cond.methodLink RX2 49 Lib.Math.max.name ∈ wsX2_trim := by decide +kernel
theorem lkX2_trim_ms_max : Cond.static Lib.Math.max.name ∈ wsX2_trim := by decide +kernel
theorem lkX2_trim_mi : Cond.initialized "java/lang/Math" ∈ wsX2_trim := by decide +kernel
theorem lkX2_trim_mc_max : Cond.code Lib.Math.max.name Lib.Math.max.code 2 (some .int) ∈ wsX2_trim := by decide +kernel
theorem lkX2_trim_f15 : Cond.fieldLink RX2 15 (TX2 1).1 (TX2 1).2.1 (TX2 1).2.2.1 ∈ wsX2_trim := by decide +kernel
theorem lkX2_trim_f9 : Cond.fieldLink RX2 9 (TX2 0).1 (TX2 0).2.1 (TX2 0).2.2.1 ∈ wsX2_trim := by decide +kernel
theorem lkX2_trim_m43 : Cond.methodLink RX2 43 Lib.Math.min.name ∈ wsX2_trim := by decide +kernel
theorem lkX2_trim_ms_min : Cond.static Lib.Math.min.name ∈ wsX2_trim := by decide +kernel
theorem lkX2_trim_mc_min : Cond.code Lib.Math.min.name Lib.Math.min.code 2 (some .int) ∈ wsX2_trim := by decide +kernel
theorem ndX2_trim : yX2_trim.cls ≠ "java/lang/invoke/MethodHandle" ∧ yX2_trim.cls ≠ "java/lang/invoke/VarHandle" ∧ (parseMethodDescriptor yX2_trim.desc).map (fun d => d.parameters.length) = some 1 := by decide +kernel
set_option maxRecDepth 100000 in
set_option maxHeartbeats 4000000 in
theorem wX2_trim_29 {p : Program} {l : Launch} {e : Env} {s : State} {m : MethodId} {args : Array Value} {below : List Frame} {meth : Method} {c : Code} {G : hp_G} {h0 h' : hp_H}  (X : hp_X p s m args meth c cX2_trim 3 RX2 wsX2_trim none G)  {x0 : Nat} {x2 : Int32}   {h : hp_H} {H : Heap} {locs : List Loc} {ls : Array Slot} (Y : hp_Y G h h0 s H locs) (hl : lv_has ls 3 [(0, .ref x0), (2, .int x2)]) (hF : bX2_trim_29 x0 x2 h = some h') : W p l e rmX2_trim s m args below meth c H locs 0 0 (MQ below (va_Qv (fun u => u = h') (hp_B G h0) (hp_A h0)) args s 0 0 (hp_A h0)) (F0 m 29 ls []) := by
  unfold bX2_trim_29 at hF
  refine lv_aload_n X.1 X.2.1 dX2_trim_29 rfl (lv_at hl 0 rfl) ?_
  refine lv_iload_n X.1 X.2.1 dX2_trim_30 rfl (lv_at hl 1 rfl) ?_
  refine lv_iconst (v := 0) X.1 X.2.1 dX2_trim_31 (by decide) ?_
  refine va_mmax X.1 X.2.1 (X.2.2.1.trans hl.1.symm) X.2.2.2.1 (X.2.2.2.2.1 _ lkX2_trim_m49) (X.2.2.2.2.1 _ lkX2_trim_ms_max) (X.2.2.2.2.1 _ lkX2_trim_mi) (X.2.2.2.2.1 _ lkX2_trim_mc_max) (Nat.le_of_ble_eq_true rfl) (Nat.le_of_ble_eq_true rfl) (Nat.zero_le _) (Nat.zero_le _) dX2_trim_32 ?_
  obtain ⟨h1, e2, hF⟩ := hp_b hF
  refine hp_put X Y (C := RX2) (T := TX2) (N := 2) (ci := 2) (k := 1) (ty0 := tyX2) rfl inX2_trim_X2 tyX2_ok nmX2 (by decide) lkX2_trim_f15 rfl rfl rfl e2 dX2_trim_35 (fun H locs Y => ?_)
  cases hF
  exact hp_rv X Y rfl dX2_trim_38
set_option maxRecDepth 100000 in
set_option maxHeartbeats 4000000 in
theorem wX2_trim_8 {p : Program} {l : Launch} {e : Env} {s : State} {m : MethodId} {args : Array Value} {below : List Frame} {meth : Method} {c : Code} {G : hp_G} {h0 h' : hp_H}  (X : hp_X p s m args meth c cX2_trim 3 RX2 wsX2_trim none G)  {x0 : Nat}   : ∀ (n : Nat) {x2 : Int32} {h : hp_H} {H : Heap} {locs : List Loc} {ls : Array Slot} (Y : hp_Y G h h0 s H locs) (hl : lv_has ls 3 [(0, .ref x0), (2, .int x2)]) (hF : bX2_trim_8 x0 n x2 h = some h'), W p l e rmX2_trim s m args below meth c H locs 0 0 (MQ below (va_Qv (fun u => u = h') (hp_B G h0) (hp_A h0)) args s 0 0 (hp_A h0)) (F0 m 8 ls []) := by
  intro n
  induction n with
  | zero =>
    intro x2 h H locs ls Y hl hF
    exact absurd (show none = some _ from hF) (by simp)
  | succ n ih =>
    intro x2 h H locs ls Y hl hF
    rw [bX2_trim_8] at hF
    refine lv_iload_n X.1 X.2.1 dX2_trim_8 rfl (lv_at hl 1 rfl) ?_
    refine lv_if_le (tgt := 29) X.1 X.2.1 dX2_trim_9 (by decide) (fun c1 => ?_) (fun c1 => ?_)
    · have hF := hp_ifp (c1) hF
      exact wX2_trim_29 X  Y (lv_sub hl [0, 1] rfl) hF
    · have hF := hp_ifn (c1) hF
      refine lv_aload_n X.1 X.2.1 dX2_trim_12 rfl (lv_at hl 0 rfl) ?_
      obtain ⟨v2, e3, hF⟩ := hp_b hF
      refine hp_getr X Y (C := RX2) (T := TX2) (N := 2) (ci := 2) (k := 0) rfl inX2_trim_X2 (by decide) lkX2_trim_f9 e3 dX2_trim_13 ?_
      refine lv_iload_n X.1 X.2.1 dX2_trim_16 rfl (lv_at hl 1 rfl) ?_
      refine lv_iconst (v := 1) X.1 X.2.1 dX2_trim_17 (by decide) ?_
      refine lv_isub X.1 X.2.1 dX2_trim_18 ?_
      obtain ⟨v4, e5, hF⟩ := hp_b hF
      refine hp_iald X Y e5 dX2_trim_19 ?_
      refine lv_if_ne (tgt := 29) X.1 X.2.1 dX2_trim_20 (by decide) (fun c6 => ?_) (fun c6 => ?_)
      · have hF := hp_ifn (c6) hF
        exact wX2_trim_29 X  Y (lv_sub hl [0, 1] rfl) hF
      · have hF := hp_ifp (c6) hF
        obtain ⟨v7, e8, hF⟩ := hp_b hF
        refine lv_iinc (v := v7) (lv' := [(2, .int v7), (0, .ref x0)]) X.1 X.2.1 dX2_trim_23 hl (k := 1) rfl (Option.some.inj e8) (by decide) rfl (fun ls hl => ?_)
        refine lv_goto (tgt := 8) X.1 X.2.1 dX2_trim_26 (by decide) ?_
        exact ih Y (lv_sub hl [1, 0] rfl) hF
theorem oX2_trim {x0 : Nat} {x1 : Int32} {h h' : hp_H}  (hF : fX2_trim x0 x1 h = some h') : hp_o h x0 2 = true := by
  unfold fX2_trim at hF
  exact (hp_ift hF).1
set_option maxRecDepth 100000 in
set_option maxHeartbeats 4000000 in
theorem mX2_trim (l : Launch) (G : hp_G) {x0 : Nat} {x1 : Int32} {h h' : hp_H}  (hF : fX2_trim x0 x1 h = some h') : Met l yX2_trim wsX2_trim rmX2_trim (va_Pc [.ref x0, .int x1] (hp_S G h)) (va_Qv (fun u => u = h') (hp_B G h) (hp_A h)) 0 0 (hp_A h) := by
  refine hp_met (cc := cX2_trim) (nL := 3) (ret := none) (by decide) rfl ?_
  intro p e s m below meth c X Y
  have hl := lv_entry ([.ref x0, .int x1]) (n := 3) (Nat.le_of_ble_eq_true rfl)
  rw [lg_entry_eq]
  generalize (lg_sl ([.ref x0, .int x1]) ++ List.replicate (3 - (lg_sl ([.ref x0, .int x1])).length) Slot.unset).toArray = ls at hl ⊢
  have hl : lv_has ls 3 [(0, .ref x0), (1, .int x1)] := hl
  unfold fX2_trim at hF
  obtain ⟨ho, hF⟩ := hp_ift hF
  refine lv_iload_n X.1 X.2.1 dX2_trim_0 rfl (lv_at hl 1 rfl) ?_
  refine lv_sipush (v := 140) X.1 X.2.1 dX2_trim_1 (by decide) ?_
  refine va_mmin X.1 X.2.1 (X.2.2.1.trans hl.1.symm) X.2.2.2.1 (X.2.2.2.2.1 _ lkX2_trim_m43) (X.2.2.2.2.1 _ lkX2_trim_ms_min) (X.2.2.2.2.1 _ lkX2_trim_mi) (X.2.2.2.2.1 _ lkX2_trim_mc_min) (Nat.le_of_ble_eq_true rfl) (Nat.le_of_ble_eq_true rfl) (Nat.zero_le _) (Nat.zero_le _) dX2_trim_4 ?_
  obtain ⟨v1, e2, hF⟩ := hp_b hF
  refine hp_ti (Option.some.inj e2) ?_
  refine lv_istore_n (lv' := [(2, .int v1), (0, .ref x0), (1, .int x1)]) X.1 X.2.1 dX2_trim_7 rfl hl (by decide) rfl (fun ls hl => ?_)
  exact wX2_trim_8 X  hp_n Y (lv_sub hl [1, 0] rfl) hF

/-! WholeNumbers$Natural.takeUnsigned -/
def rmX2_takeUnsigned : Room := { frames := 2, cells := 0, slots := 0, locals := 43 }
def fX2_takeUnsigned (x0 : Nat) (x1 : Int64) (h : hp_H) : Option hp_H :=
  if hp_o h x0 2 = true then
  (hp_gr h x0 2 0).bind fun v1 =>
  (hp_si h 0 v1 (0 : Int32) ((Int64.toInt32 x1) &&& (1073741823 : Int32))).bind fun h3 =>
  (hp_gr h3 x0 2 0).bind fun v5 =>
  (hp_si h3 0 v5 (1 : Int32) ((Int64.toInt32 (hp_lushr x1 (30 : Int32))) &&& (1073741823 : Int32))).bind fun h7 =>
  (hp_gr h7 x0 2 0).bind fun v9 =>
  (hp_si h7 0 v9 (2 : Int32) (Int64.toInt32 (hp_lushr x1 (60 : Int32)))).bind fun h11 =>
  (fX2_trim x0 (3 : Int32) h11).bind fun h14 =>
  some h14
  else none
theorem inX2_takeUnsigned_X2 : ∀ w ∈ wsX20, w ∈ wsX2_takeUnsigned := by decide +kernel
theorem lkX2_takeUnsigned_f9 : Cond.fieldLink RX2 9 (TX2 0).1 (TX2 0).2.1 (TX2 0).2.2.1 ∈ wsX2_takeUnsigned := by decide +kernel
theorem lkX2_takeUnsigned_c32 : Cond.constant RX2 32 (1073741823) ∈ wsX2_takeUnsigned := by decide +kernel
theorem ndX2_takeUnsigned : yX2_takeUnsigned.cls ≠ "java/lang/invoke/MethodHandle" ∧ yX2_takeUnsigned.cls ≠ "java/lang/invoke/VarHandle" ∧ (parseMethodDescriptor yX2_takeUnsigned.desc).map (fun d => d.parameters.length) = some 1 := by decide +kernel
theorem oX2_takeUnsigned {x0 : Nat} {x1 : Int64} {h h' : hp_H}  (hF : fX2_takeUnsigned x0 x1 h = some h') : hp_o h x0 2 = true := by
  unfold fX2_takeUnsigned at hF
  exact (hp_ift hF).1
set_option maxRecDepth 100000 in
set_option maxHeartbeats 4000000 in
theorem mX2_takeUnsigned (l : Launch) (G : hp_G) {x0 : Nat} {x1 : Int64} {h h' : hp_H}  (hF : fX2_takeUnsigned x0 x1 h = some h') : Met l yX2_takeUnsigned wsX2_takeUnsigned rmX2_takeUnsigned (va_Pc [.ref x0, .long x1] (hp_S G h)) (va_Qv (fun u => u = h') (hp_B G h) (hp_A h)) 0 0 (hp_A h) := by
  refine hp_met (cc := cX2_takeUnsigned) (nL := 3) (ret := none) (by decide) rfl ?_
  intro p e s m below meth c X Y
  have hl := lv_entry ([.ref x0, .long x1]) (n := 3) (Nat.le_of_ble_eq_true rfl)
  rw [lg_entry_eq]
  generalize (lg_sl ([.ref x0, .long x1]) ++ List.replicate (3 - (lg_sl ([.ref x0, .long x1])).length) Slot.unset).toArray = ls at hl ⊢
  have hl : lv_has ls 3 [(0, .ref x0), (1, .long x1)] := hl
  unfold fX2_takeUnsigned at hF
  obtain ⟨ho, hF⟩ := hp_ift hF
  refine lv_aload_n X.1 X.2.1 dX2_takeUnsigned_0 rfl (lv_at hl 0 rfl) ?_
  obtain ⟨v1, e2, hF⟩ := hp_b hF
  refine hp_getr X Y (C := RX2) (T := TX2) (N := 2) (ci := 2) (k := 0) rfl inX2_takeUnsigned_X2 (by decide) lkX2_takeUnsigned_f9 e2 dX2_takeUnsigned_1 ?_
  refine lv_iconst (v := 0) X.1 X.2.1 dX2_takeUnsigned_4 (by decide) ?_
  refine lv_lload_n X.1 X.2.1 dX2_takeUnsigned_5 rfl (lv_at hl 1 rfl) ?_
  refine lv_l2i (v := Int64.toInt32 x1) X.1 X.2.1 dX2_takeUnsigned_6 rfl ?_
  refine lv_ldc (v := 1073741823) X.1 X.2.1 X.2.2.2.1 (X.2.2.2.2.1 _ lkX2_takeUnsigned_c32) dX2_takeUnsigned_7 ?_
  refine lv_iand X.1 X.2.1 dX2_takeUnsigned_9 ?_
  obtain ⟨h3, e4, hF⟩ := hp_b hF
  refine hp_iast X Y e4 dX2_takeUnsigned_10 (fun H locs Y => ?_)
  refine lv_aload_n X.1 X.2.1 dX2_takeUnsigned_11 rfl (lv_at hl 0 rfl) ?_
  obtain ⟨v5, e6, hF⟩ := hp_b hF
  refine hp_getr X Y (C := RX2) (T := TX2) (N := 2) (ci := 2) (k := 0) rfl inX2_takeUnsigned_X2 (by decide) lkX2_takeUnsigned_f9 e6 dX2_takeUnsigned_12 ?_
  refine lv_iconst (v := 1) X.1 X.2.1 dX2_takeUnsigned_15 (by decide) ?_
  refine lv_lload_n X.1 X.2.1 dX2_takeUnsigned_16 rfl (lv_at hl 1 rfl) ?_
  refine lv_bipush (v := 30) X.1 X.2.1 dX2_takeUnsigned_17 (by decide) ?_
  refine lv_lushr (v := hp_lushr x1 (30 : Int32)) X.1 X.2.1 dX2_takeUnsigned_19 rfl ?_
  refine lv_l2i (v := Int64.toInt32 (hp_lushr x1 (30 : Int32))) X.1 X.2.1 dX2_takeUnsigned_20 rfl ?_
  refine lv_ldc (v := 1073741823) X.1 X.2.1 X.2.2.2.1 (X.2.2.2.2.1 _ lkX2_takeUnsigned_c32) dX2_takeUnsigned_21 ?_
  refine lv_iand X.1 X.2.1 dX2_takeUnsigned_23 ?_
  obtain ⟨h7, e8, hF⟩ := hp_b hF
  refine hp_iast X Y e8 dX2_takeUnsigned_24 (fun H locs Y => ?_)
  refine lv_aload_n X.1 X.2.1 dX2_takeUnsigned_25 rfl (lv_at hl 0 rfl) ?_
  obtain ⟨v9, e10, hF⟩ := hp_b hF
  refine hp_getr X Y (C := RX2) (T := TX2) (N := 2) (ci := 2) (k := 0) rfl inX2_takeUnsigned_X2 (by decide) lkX2_takeUnsigned_f9 e10 dX2_takeUnsigned_26 ?_
  refine lv_iconst (v := 2) X.1 X.2.1 dX2_takeUnsigned_29 (by decide) ?_
  refine lv_lload_n X.1 X.2.1 dX2_takeUnsigned_30 rfl (lv_at hl 1 rfl) ?_
  refine lv_bipush (v := 60) X.1 X.2.1 dX2_takeUnsigned_31 (by decide) ?_
  refine lv_lushr (v := hp_lushr x1 (60 : Int32)) X.1 X.2.1 dX2_takeUnsigned_33 rfl ?_
  refine lv_l2i (v := Int64.toInt32 (hp_lushr x1 (60 : Int32))) X.1 X.2.1 dX2_takeUnsigned_34 rfl ?_
  obtain ⟨h11, e12, hF⟩ := hp_b hF
  refine hp_iast X Y e12 dX2_takeUnsigned_35 (fun H locs Y => ?_)
  refine lv_aload_n X.1 X.2.1 dX2_takeUnsigned_36 rfl (lv_at hl 0 rfl) ?_
  refine lv_iconst (v := 3) X.1 X.2.1 dX2_takeUnsigned_37 (by decide) ?_
  obtain ⟨h14, e13, hF⟩ := hp_b hF
  refine hp_cv Y (hp_runV X Y (ci := 2) (As := [.int (3 : Int32)]) (n := 1) (T := TX2) (N := 2) (mX2_trim l G e13) rfl (oX2_trim e13) gX2_takeUnsigned_X2_trim rfl rfl rfl ndX2_trim ⟨Nat.le_of_ble_eq_true rfl, Nat.le_of_ble_eq_true rfl⟩ rfl hl.1 rfl (Nat.le_of_ble_eq_true rfl) dX2_takeUnsigned_38 ⟨Nat.zero_le _, Nat.zero_le _⟩) (fun H locs Y => ?_)
  cases hF
  exact hp_rv X Y rfl dX2_takeUnsigned_41
