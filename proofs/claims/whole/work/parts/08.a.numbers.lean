/-! WholeNumbers.isRegister -/
def rmX5_isRegister : Room := { frames := 0, cells := 0, slots := 0, locals := 0 }
def fX5_isRegister (x0 : Int32) : Option Int32 :=
  if x0 < 0 then (
    some (0 : Int32))
  else (
    if (8 : Int32) ≤ x0 then (
      some (0 : Int32))
    else (
      some (1 : Int32)))
theorem ndX5_isRegister : yX5_isRegister.cls ≠ "java/lang/invoke/MethodHandle" ∧ yX5_isRegister.cls ≠ "java/lang/invoke/VarHandle" ∧ (parseMethodDescriptor yX5_isRegister.desc).map (fun d => d.parameters.length) = some 1 := by decide +kernel
set_option maxRecDepth 100000 in
set_option maxHeartbeats 4000000 in
theorem mX5_isRegister (l : Launch) (G : hp_G) {x0 : Int32} {h : hp_H} {r : Int32} (hF : fX5_isRegister x0 = some r) : Met l yX5_isRegister wsX5_isRegister rmX5_isRegister (va_Pc [.int x0] (hp_S G h)) (va_Qi (fun r' u => r' = r ∧ u = h) (hp_B G h) (hp_A h)) 0 0 (hp_A h) := by
  refine hp_met (cc := cX5_isRegister) (nL := 1) (ret := (some .boolean)) (by decide) rfl ?_
  intro p e s m below meth c X Y
  have hl := lv_entry ([.int x0]) (n := 1) (Nat.le_of_ble_eq_true rfl)
  rw [lg_entry_eq]
  generalize (lg_sl ([.int x0]) ++ List.replicate (1 - (lg_sl ([.int x0])).length) Slot.unset).toArray = ls at hl ⊢
  have hl : lv_has ls 1 [(0, .int x0)] := hl
  unfold fX5_isRegister at hF
  refine lv_iload_n X.1 X.2.1 dX5_isRegister_0 rfl (lv_at hl 0 rfl) ?_
  refine lv_if_lt (tgt := 14) X.1 X.2.1 dX5_isRegister_1 (by decide) (fun c1 => ?_) (fun c1 => ?_)
  · have hF := hp_ifp (c1) hF
    refine lv_iconst (v := 0) X.1 X.2.1 dX5_isRegister_14 (by decide) ?_
    cases hF
    exact hp_ri X Y rfl rfl dX5_isRegister_15
  · have hF := hp_ifn (c1) hF
    refine lv_iload_n X.1 X.2.1 dX5_isRegister_4 rfl (lv_at hl 0 rfl) ?_
    refine lv_bipush (v := 8) X.1 X.2.1 dX5_isRegister_5 (by decide) ?_
    refine lv_icmp_ge (tgt := 14) X.1 X.2.1 dX5_isRegister_7 (by decide) (fun c2 => ?_) (fun c2 => ?_)
    · have hF := hp_ifp (c2) hF
      refine lv_iconst (v := 0) X.1 X.2.1 dX5_isRegister_14 (by decide) ?_
      cases hF
      exact hp_ri X Y rfl rfl dX5_isRegister_15
    · have hF := hp_ifn (c2) hF
      refine lv_iconst (v := 1) X.1 X.2.1 dX5_isRegister_10 (by decide) ?_
      refine lv_goto (tgt := 15) X.1 X.2.1 dX5_isRegister_11 (by decide) ?_
      cases hF
      exact hp_ri X Y rfl rfl dX5_isRegister_15

/-! WholeNumbers.areRegisters -/
def rmX5_areRegisters : Room := { frames := 1, cells := 0, slots := 0, locals := 20 }
def fX5_areRegisters (x0 : Int32) (x1 : Int32) (x2 : Int32) : Option Int32 :=
  (fX5_isRegister x0).bind fun v2 =>
  if v2 = 0 then (
    some (0 : Int32))
  else (
    (fX5_isRegister x1).bind fun v5 =>
    if v5 = 0 then (
      some (0 : Int32))
    else (
      (fX5_isRegister x2).bind fun v8 =>
      if v8 = 0 then (
        some (0 : Int32))
      else (
        some (1 : Int32))))
theorem ndX5_areRegisters : yX5_areRegisters.cls ≠ "java/lang/invoke/MethodHandle" ∧ yX5_areRegisters.cls ≠ "java/lang/invoke/VarHandle" ∧ (parseMethodDescriptor yX5_areRegisters.desc).map (fun d => d.parameters.length) = some 3 := by decide +kernel
set_option maxRecDepth 100000 in
set_option maxHeartbeats 4000000 in
theorem mX5_areRegisters (l : Launch) (G : hp_G) {x0 : Int32} {x1 : Int32} {x2 : Int32} {h : hp_H} {r : Int32} (hF : fX5_areRegisters x0 x1 x2 = some r) : Met l yX5_areRegisters wsX5_areRegisters rmX5_areRegisters (va_Pc [.int x0, .int x1, .int x2] (hp_S G h)) (va_Qi (fun r' u => r' = r ∧ u = h) (hp_B G h) (hp_A h)) 0 0 (hp_A h) := by
  refine hp_met (cc := cX5_areRegisters) (nL := 3) (ret := (some .boolean)) (by decide) rfl ?_
  intro p e s m below meth c X Y
  have hl := lv_entry ([.int x0, .int x1, .int x2]) (n := 3) (Nat.le_of_ble_eq_true rfl)
  rw [lg_entry_eq]
  generalize (lg_sl ([.int x0, .int x1, .int x2]) ++ List.replicate (3 - (lg_sl ([.int x0, .int x1, .int x2])).length) Slot.unset).toArray = ls at hl ⊢
  have hl : lv_has ls 3 [(0, .int x0), (1, .int x1), (2, .int x2)] := hl
  unfold fX5_areRegisters at hF
  refine lv_iload_n X.1 X.2.1 dX5_areRegisters_0 rfl (lv_at hl 0 rfl) ?_
  obtain ⟨v2, e1, hF⟩ := hp_b hF
  refine hp_ci Y (hp_runS X Y (As := [.int x0]) (n := 1) (mX5_isRegister l G e1) gX5_areRegisters_X5_isRegister rfl rfl rfl ndX5_isRegister ⟨Nat.le_of_ble_eq_true rfl, Nat.le_of_ble_eq_true rfl⟩ rfl hl.1 rfl (Nat.le_of_ble_eq_true rfl) dX5_areRegisters_1 ⟨Nat.zero_le _, Nat.zero_le _⟩) (fun H locs Y => ?_)
  refine lv_if_eq (tgt := 25) X.1 X.2.1 dX5_areRegisters_4 (by decide) (fun c3 => ?_) (fun c3 => ?_)
  · have hF := hp_ifp (c3) hF
    refine lv_iconst (v := 0) X.1 X.2.1 dX5_areRegisters_25 (by decide) ?_
    cases hF
    exact hp_ri X Y rfl rfl dX5_areRegisters_26
  · have hF := hp_ifn (c3) hF
    refine lv_iload_n X.1 X.2.1 dX5_areRegisters_7 rfl (lv_at hl 1 rfl) ?_
    obtain ⟨v5, e4, hF⟩ := hp_b hF
    refine hp_ci Y (hp_runS X Y (As := [.int x1]) (n := 1) (mX5_isRegister l G e4) gX5_areRegisters_X5_isRegister rfl rfl rfl ndX5_isRegister ⟨Nat.le_of_ble_eq_true rfl, Nat.le_of_ble_eq_true rfl⟩ rfl hl.1 rfl (Nat.le_of_ble_eq_true rfl) dX5_areRegisters_8 ⟨Nat.zero_le _, Nat.zero_le _⟩) (fun H locs Y => ?_)
    refine lv_if_eq (tgt := 25) X.1 X.2.1 dX5_areRegisters_11 (by decide) (fun c6 => ?_) (fun c6 => ?_)
    · have hF := hp_ifp (c6) hF
      refine lv_iconst (v := 0) X.1 X.2.1 dX5_areRegisters_25 (by decide) ?_
      cases hF
      exact hp_ri X Y rfl rfl dX5_areRegisters_26
    · have hF := hp_ifn (c6) hF
      refine lv_iload_n X.1 X.2.1 dX5_areRegisters_14 rfl (lv_at hl 2 rfl) ?_
      obtain ⟨v8, e7, hF⟩ := hp_b hF
      refine hp_ci Y (hp_runS X Y (As := [.int x2]) (n := 1) (mX5_isRegister l G e7) gX5_areRegisters_X5_isRegister rfl rfl rfl ndX5_isRegister ⟨Nat.le_of_ble_eq_true rfl, Nat.le_of_ble_eq_true rfl⟩ rfl hl.1 rfl (Nat.le_of_ble_eq_true rfl) dX5_areRegisters_15 ⟨Nat.zero_le _, Nat.zero_le _⟩) (fun H locs Y => ?_)
      refine lv_if_eq (tgt := 25) X.1 X.2.1 dX5_areRegisters_18 (by decide) (fun c9 => ?_) (fun c9 => ?_)
      · have hF := hp_ifp (c9) hF
        refine lv_iconst (v := 0) X.1 X.2.1 dX5_areRegisters_25 (by decide) ?_
        cases hF
        exact hp_ri X Y rfl rfl dX5_areRegisters_26
      · have hF := hp_ifn (c9) hF
        refine lv_iconst (v := 1) X.1 X.2.1 dX5_areRegisters_21 (by decide) ?_
        refine lv_goto (tgt := 26) X.1 X.2.1 dX5_areRegisters_22 (by decide) ?_
        cases hF
        exact hp_ri X Y rfl rfl dX5_areRegisters_26

/-! WholeNumbers.isBase -/
def rmX5_isBase : Room := { frames := 0, cells := 0, slots := 0, locals := 0 }
def fX5_isBase (x0 : Int32) : Option Int32 :=
  if x0 < (2 : Int32) then (
    some (0 : Int32))
  else (
    if (16 : Int32) < x0 then (
      some (0 : Int32))
    else (
      some (1 : Int32)))
theorem ndX5_isBase : yX5_isBase.cls ≠ "java/lang/invoke/MethodHandle" ∧ yX5_isBase.cls ≠ "java/lang/invoke/VarHandle" ∧ (parseMethodDescriptor yX5_isBase.desc).map (fun d => d.parameters.length) = some 1 := by decide +kernel
set_option maxRecDepth 100000 in
set_option maxHeartbeats 4000000 in
theorem mX5_isBase (l : Launch) (G : hp_G) {x0 : Int32} {h : hp_H} {r : Int32} (hF : fX5_isBase x0 = some r) : Met l yX5_isBase wsX5_isBase rmX5_isBase (va_Pc [.int x0] (hp_S G h)) (va_Qi (fun r' u => r' = r ∧ u = h) (hp_B G h) (hp_A h)) 0 0 (hp_A h) := by
  refine hp_met (cc := cX5_isBase) (nL := 1) (ret := (some .boolean)) (by decide) rfl ?_
  intro p e s m below meth c X Y
  have hl := lv_entry ([.int x0]) (n := 1) (Nat.le_of_ble_eq_true rfl)
  rw [lg_entry_eq]
  generalize (lg_sl ([.int x0]) ++ List.replicate (1 - (lg_sl ([.int x0])).length) Slot.unset).toArray = ls at hl ⊢
  have hl : lv_has ls 1 [(0, .int x0)] := hl
  unfold fX5_isBase at hF
  refine lv_iload_n X.1 X.2.1 dX5_isBase_0 rfl (lv_at hl 0 rfl) ?_
  refine lv_iconst (v := 2) X.1 X.2.1 dX5_isBase_1 (by decide) ?_
  refine lv_icmp_lt (tgt := 15) X.1 X.2.1 dX5_isBase_2 (by decide) (fun c1 => ?_) (fun c1 => ?_)
  · have hF := hp_ifp (c1) hF
    refine lv_iconst (v := 0) X.1 X.2.1 dX5_isBase_15 (by decide) ?_
    cases hF
    exact hp_ri X Y rfl rfl dX5_isBase_16
  · have hF := hp_ifn (c1) hF
    refine lv_iload_n X.1 X.2.1 dX5_isBase_5 rfl (lv_at hl 0 rfl) ?_
    refine lv_bipush (v := 16) X.1 X.2.1 dX5_isBase_6 (by decide) ?_
    refine lv_icmp_gt (tgt := 15) X.1 X.2.1 dX5_isBase_8 (by decide) (fun c2 => ?_) (fun c2 => ?_)
    · have hF := hp_ifp (c2) hF
      refine lv_iconst (v := 0) X.1 X.2.1 dX5_isBase_15 (by decide) ?_
      cases hF
      exact hp_ri X Y rfl rfl dX5_isBase_16
    · have hF := hp_ifn (c2) hF
      refine lv_iconst (v := 1) X.1 X.2.1 dX5_isBase_11 (by decide) ?_
      refine lv_goto (tgt := 16) X.1 X.2.1 dX5_isBase_12 (by decide) ?_
      cases hF
      exact hp_ri X Y rfl rfl dX5_isBase_16

/-! WholeNumbers.keepResult -/
def rmX5_keepResult : Room := { frames := 3, cells := 0, slots := 0, locals := 90 }
def fX5_keepResult (x0 : Nat) (x1 : Int32) (h : hp_H) : Option (Int32 × hp_H) :=
  if hp_o h x0 5 = true then
  (hp_gr h x0 5 1).bind fun v1 =>
  (hp_gr h v1 4 0).bind fun v3 =>
  (fX2_bitLength v3 h).bind fun v6 =>
  if v6 ≤ (4096 : Int32) then (
    (hp_gr h x0 5 0).bind fun v8 =>
    (hp_ar h v8 x1).bind fun v10 =>
    (hp_gr h x0 5 1).bind fun v12 =>
    (fX4_take v10 v12 h).bind fun h15 =>
    some (v6, h15))
  else (
    some ((-1 : Int32), h))
  else none
theorem inX5_keepResult_X4 : ∀ w ∈ wsX40, w ∈ wsX5_keepResult := by decide +kernel
theorem inX5_keepResult_X5 : ∀ w ∈ wsX50, w ∈ wsX5_keepResult := by decide +kernel
theorem lkX5_keepResult_f16 : Cond.fieldLink RX5 16 (TX5 1).1 (TX5 1).2.1 (TX5 1).2.2.1 ∈ wsX5_keepResult := by decide +kernel
theorem lkX5_keepResult_f72 : Cond.fieldLink RX5 72 (TX4 0).1 (TX4 0).2.1 (TX4 0).2.2.1 ∈ wsX5_keepResult := by decide +kernel
theorem lkX5_keepResult_f11 : Cond.fieldLink RX5 11 (TX5 0).1 (TX5 0).2.1 (TX5 0).2.2.1 ∈ wsX5_keepResult := by decide +kernel
theorem ndX5_keepResult : yX5_keepResult.cls ≠ "java/lang/invoke/MethodHandle" ∧ yX5_keepResult.cls ≠ "java/lang/invoke/VarHandle" ∧ (parseMethodDescriptor yX5_keepResult.desc).map (fun d => d.parameters.length) = some 1 := by decide +kernel
theorem oX5_keepResult {x0 : Nat} {x1 : Int32} {h h' : hp_H} {r : Int32} (hF : fX5_keepResult x0 x1 h = some (r, h')) : hp_o h x0 5 = true := by
  unfold fX5_keepResult at hF
  exact (hp_ift hF).1
set_option maxRecDepth 100000 in
set_option maxHeartbeats 4000000 in
theorem mX5_keepResult (l : Launch) (G : hp_G) {x0 : Nat} {x1 : Int32} {h h' : hp_H} {r : Int32} (hF : fX5_keepResult x0 x1 h = some (r, h')) : Met l yX5_keepResult wsX5_keepResult rmX5_keepResult (va_Pc [.ref x0, .int x1] (hp_S G h)) (va_Qi (fun r' u => r' = r ∧ u = h') (hp_B G h) (hp_A h)) 0 0 (hp_A h) := by
  refine hp_met (cc := cX5_keepResult) (nL := 3) (ret := (some .int)) (by decide) rfl ?_
  intro p e s m below meth c X Y
  have hl := lv_entry ([.ref x0, .int x1]) (n := 3) (Nat.le_of_ble_eq_true rfl)
  rw [lg_entry_eq]
  generalize (lg_sl ([.ref x0, .int x1]) ++ List.replicate (3 - (lg_sl ([.ref x0, .int x1])).length) Slot.unset).toArray = ls at hl ⊢
  have hl : lv_has ls 3 [(0, .ref x0), (1, .int x1)] := hl
  unfold fX5_keepResult at hF
  obtain ⟨ho, hF⟩ := hp_ift hF
  refine lv_aload_n X.1 X.2.1 dX5_keepResult_0 rfl (lv_at hl 0 rfl) ?_
  obtain ⟨v1, e2, hF⟩ := hp_b hF
  refine hp_getr X Y (C := RX5) (T := TX5) (N := 6) (ci := 5) (k := 1) rfl inX5_keepResult_X5 (by decide) lkX5_keepResult_f16 e2 dX5_keepResult_1 ?_
  obtain ⟨v3, e4, hF⟩ := hp_b hF
  refine hp_getr X Y (C := RX4) (T := TX4) (N := 2) (ci := 4) (k := 0) rfl inX5_keepResult_X4 (by decide) lkX5_keepResult_f72 e4 dX5_keepResult_4 ?_
  obtain ⟨v6, e5, hF⟩ := hp_b hF
  refine hp_ci Y (hp_runV X Y (ci := 2) (As := []) (n := 0) (T := TX2) (N := 2) (mX2_bitLength l G e5) rfl (oX2_bitLength e5) gX5_keepResult_X2_bitLength rfl rfl rfl ndX2_bitLength ⟨Nat.le_of_ble_eq_true rfl, Nat.le_of_ble_eq_true rfl⟩ rfl hl.1 rfl (Nat.le_of_ble_eq_true rfl) dX5_keepResult_7 ⟨Nat.zero_le _, Nat.zero_le _⟩) (fun H locs Y => ?_)
  refine lv_istore_n (lv' := [(2, .int v6), (0, .ref x0), (1, .int x1)]) X.1 X.2.1 dX5_keepResult_10 rfl hl (by decide) rfl (fun ls hl => ?_)
  refine lv_iload_n X.1 X.2.1 dX5_keepResult_11 rfl (lv_at hl 0 rfl) ?_
  refine lv_sipush (v := 4096) X.1 X.2.1 dX5_keepResult_12 (by decide) ?_
  refine lv_icmp_le (tgt := 20) X.1 X.2.1 dX5_keepResult_15 (by decide) (fun c7 => ?_) (fun c7 => ?_)
  · have hF := hp_ifp (c7) hF
    refine lv_aload_n X.1 X.2.1 dX5_keepResult_20 rfl (lv_at hl 1 rfl) ?_
    obtain ⟨v8, e9, hF⟩ := hp_b hF
    refine hp_getr X Y (C := RX5) (T := TX5) (N := 6) (ci := 5) (k := 0) rfl inX5_keepResult_X5 (by decide) lkX5_keepResult_f11 e9 dX5_keepResult_21 ?_
    refine lv_iload_n X.1 X.2.1 dX5_keepResult_24 rfl (lv_at hl 2 rfl) ?_
    obtain ⟨v10, e11, hF⟩ := hp_b hF
    refine hp_aald X Y e11 dX5_keepResult_25 ?_
    refine lv_aload_n X.1 X.2.1 dX5_keepResult_26 rfl (lv_at hl 1 rfl) ?_
    obtain ⟨v12, e13, hF⟩ := hp_b hF
    refine hp_getr X Y (C := RX5) (T := TX5) (N := 6) (ci := 5) (k := 1) rfl inX5_keepResult_X5 (by decide) lkX5_keepResult_f16 e13 dX5_keepResult_27 ?_
    obtain ⟨h15, e14, hF⟩ := hp_b hF
    refine hp_cv Y (hp_runV X Y (ci := 4) (As := [.ref v12]) (n := 1) (T := TX4) (N := 2) (mX4_take l G e14) rfl (oX4_take e14) gX5_keepResult_X4_take rfl rfl rfl ndX4_take ⟨Nat.le_of_ble_eq_true rfl, Nat.le_of_ble_eq_true rfl⟩ rfl hl.1 rfl (Nat.le_of_ble_eq_true rfl) dX5_keepResult_30 ⟨Nat.zero_le _, Nat.zero_le _⟩) (fun H locs Y => ?_)
    refine lv_iload_n X.1 X.2.1 dX5_keepResult_33 rfl (lv_at hl 0 rfl) ?_
    cases hF
    exact hp_ri X Y rfl rfl dX5_keepResult_34
  · have hF := hp_ifn (c7) hF
    refine lv_iconst (v := -1) X.1 X.2.1 dX5_keepResult_18 (by decide) ?_
    cases hF
    exact hp_ri X Y rfl rfl dX5_keepResult_19

/-! WholeNumbers.load -/
def rmX5_load : Room := { frames := 4, cells := 0, slots := 0, locals := 87 }
def fX5_load (x0 : Nat) (x1 : Int32) (x2 : Int64) (h : hp_H) : Option (Int32 × hp_H) :=
  if hp_o h x0 5 = true then
  (fX5_isRegister x1).bind fun v2 =>
  if v2 = 0 then (
    some ((0 : Int32), h))
  else (
    (hp_gr h x0 5 0).bind fun v4 =>
    (hp_ar h v4 x1).bind fun v6 =>
    (fX4_takeLong v6 x2 h).bind fun h9 =>
    some ((1 : Int32), h9))
  else none
theorem inX5_load_X5 : ∀ w ∈ wsX50, w ∈ wsX5_load := by decide +kernel
theorem lkX5_load_f11 : Cond.fieldLink RX5 11 (TX5 0).1 (TX5 0).2.1 (TX5 0).2.2.1 ∈ wsX5_load := by decide +kernel
theorem ndX5_load : yX5_load.cls ≠ "java/lang/invoke/MethodHandle" ∧ yX5_load.cls ≠ "java/lang/invoke/VarHandle" ∧ (parseMethodDescriptor yX5_load.desc).map (fun d => d.parameters.length) = some 2 := by decide +kernel
theorem oX5_load {x0 : Nat} {x1 : Int32} {x2 : Int64} {h h' : hp_H} {r : Int32} (hF : fX5_load x0 x1 x2 h = some (r, h')) : hp_o h x0 5 = true := by
  unfold fX5_load at hF
  exact (hp_ift hF).1
set_option maxRecDepth 100000 in
set_option maxHeartbeats 4000000 in
theorem mX5_load (l : Launch) (G : hp_G) {x0 : Nat} {x1 : Int32} {x2 : Int64} {h h' : hp_H} {r : Int32} (hF : fX5_load x0 x1 x2 h = some (r, h')) : Met l yX5_load wsX5_load rmX5_load (va_Pc [.ref x0, .int x1, .long x2] (hp_S G h)) (va_Qi (fun r' u => r' = r ∧ u = h') (hp_B G h) (hp_A h)) 0 0 (hp_A h) := by
  refine hp_met (cc := cX5_load) (nL := 4) (ret := (some .boolean)) (by decide) rfl ?_
  intro p e s m below meth c X Y
  have hl := lv_entry ([.ref x0, .int x1, .long x2]) (n := 4) (Nat.le_of_ble_eq_true rfl)
  rw [lg_entry_eq]
  generalize (lg_sl ([.ref x0, .int x1, .long x2]) ++ List.replicate (4 - (lg_sl ([.ref x0, .int x1, .long x2])).length) Slot.unset).toArray = ls at hl ⊢
  have hl : lv_has ls 4 [(0, .ref x0), (1, .int x1), (2, .long x2)] := hl
  unfold fX5_load at hF
  obtain ⟨ho, hF⟩ := hp_ift hF
  refine lv_iload_n X.1 X.2.1 dX5_load_0 rfl (lv_at hl 1 rfl) ?_
  obtain ⟨v2, e1, hF⟩ := hp_b hF
  refine hp_ci Y (hp_runS X Y (As := [.int x1]) (n := 1) (mX5_isRegister l G e1) gX5_load_X5_isRegister rfl rfl rfl ndX5_isRegister ⟨Nat.le_of_ble_eq_true rfl, Nat.le_of_ble_eq_true rfl⟩ rfl hl.1 rfl (Nat.le_of_ble_eq_true rfl) dX5_load_1 ⟨Nat.zero_le _, Nat.zero_le _⟩) (fun H locs Y => ?_)
  refine lv_if_ne (tgt := 9) X.1 X.2.1 dX5_load_4 (by decide) (fun c3 => ?_) (fun c3 => ?_)
  · have hF := hp_ifn (c3) hF
    refine lv_aload_n X.1 X.2.1 dX5_load_9 rfl (lv_at hl 0 rfl) ?_
    obtain ⟨v4, e5, hF⟩ := hp_b hF
    refine hp_getr X Y (C := RX5) (T := TX5) (N := 6) (ci := 5) (k := 0) rfl inX5_load_X5 (by decide) lkX5_load_f11 e5 dX5_load_10 ?_
    refine lv_iload_n X.1 X.2.1 dX5_load_13 rfl (lv_at hl 1 rfl) ?_
    obtain ⟨v6, e7, hF⟩ := hp_b hF
    refine hp_aald X Y e7 dX5_load_14 ?_
    refine lv_lload_n X.1 X.2.1 dX5_load_15 rfl (lv_at hl 2 rfl) ?_
    obtain ⟨h9, e8, hF⟩ := hp_b hF
    refine hp_cv Y (hp_runV X Y (ci := 4) (As := [.long x2]) (n := 1) (T := TX4) (N := 2) (mX4_takeLong l G e8) rfl (oX4_takeLong e8) gX5_load_X4_takeLong rfl rfl rfl ndX4_takeLong ⟨Nat.le_of_ble_eq_true rfl, Nat.le_of_ble_eq_true rfl⟩ rfl hl.1 rfl (Nat.le_of_ble_eq_true rfl) dX5_load_16 ⟨Nat.zero_le _, Nat.zero_le _⟩) (fun H locs Y => ?_)
    refine lv_iconst (v := 1) X.1 X.2.1 dX5_load_19 (by decide) ?_
    cases hF
    exact hp_ri X Y rfl rfl dX5_load_20
  · have hF := hp_ifp (c3) hF
    refine lv_iconst (v := 0) X.1 X.2.1 dX5_load_7 (by decide) ?_
    cases hF
    exact hp_ri X Y rfl rfl dX5_load_8

/-! WholeNumbers.reckon -/
def rmX5_reckon : Room := { frames := 4, cells := 0, slots := 0, locals := 112 }
def bX5_reckon_99  (x0 : Nat) (x2 : Int32) (t0 : Nat) (t1 : Nat) (t2 : Nat) (t3 : Int32) (h : hp_H) : Option (Int32 × hp_H) :=
  (fX4_takeSum t0 t1 t2 t3 h).bind fun h2 =>
  (fX5_keepResult x0 x2 h2).bind fun (v5, h4) =>
  some (v5, h4)
def fX5_reckon (x0 : Nat) (x1 : Int32) (x2 : Int32) (x3 : Int32) (x4 : Int32) (h : hp_H) : Option (Int32 × hp_H) :=
  if hp_o h x0 5 = true then
  (fX5_areRegisters x2 x3 x4).bind fun v2 =>
  if v2 = 0 then (
    some ((-1 : Int32), h))
  else (
    (hp_gr h x0 5 0).bind fun v4 =>
    (hp_ar h v4 x3).bind fun v6 =>
    (hp_gr h x0 5 0).bind fun v8 =>
    (hp_ar h v8 x4).bind fun v10 =>
    if x1 = (0 : Int32) then (
      (hp_gr h x0 5 1).bind fun v13 =>
      (hp_gi h v10 4 1).bind fun v15 =>
      (fX4_takeSum v13 v6 v10 v15 h).bind fun h18 =>
      (fX5_keepResult x0 x2 h18).bind fun (v21, h20) =>
      some (v21, h20))
    else
    if x1 = (1 : Int32) then (
      (hp_gr h x0 5 1).bind fun v24 =>
      (hp_gi h v10 4 1).bind fun v26 =>
      if v26 = 0 then (
        bX5_reckon_99 x0 x2 v24 v6 v10 (1 : Int32) h)
      else (
        bX5_reckon_99 x0 x2 v24 v6 v10 (0 : Int32) h))
    else
    if x1 = (2 : Int32) then (
      (hp_gr h x0 5 1).bind fun v30 =>
      (fX4_takeProduct v30 v6 v10 h).bind fun (v34, h33) =>
      if v34 = 0 then (
        some ((-1 : Int32), h33))
      else (
        (fX5_keepResult x0 x2 h33).bind fun (v39, h38) =>
        some (v39, h38)))
    else
    some ((-1 : Int32), h))
  else none
theorem inX5_reckon_X4 : ∀ w ∈ wsX40, w ∈ wsX5_reckon := by decide +kernel
theorem inX5_reckon_X5 : ∀ w ∈ wsX50, w ∈ wsX5_reckon := by decide +kernel
theorem lkX5_reckon_f11 : Cond.fieldLink RX5 11 (TX5 0).1 (TX5 0).2.1 (TX5 0).2.2.1 ∈ wsX5_reckon := by decide +kernel
theorem lkX5_reckon_f16 : Cond.fieldLink RX5 16 (TX5 1).1 (TX5 1).2.1 (TX5 1).2.2.1 ∈ wsX5_reckon := by decide +kernel
theorem lkX5_reckon_f56 : Cond.fieldLink RX5 56 (TX4 1).1 (TX4 1).2.1 (TX4 1).2.2.1 ∈ wsX5_reckon := by decide +kernel
theorem ndX5_reckon : yX5_reckon.cls ≠ "java/lang/invoke/MethodHandle" ∧ yX5_reckon.cls ≠ "java/lang/invoke/VarHandle" ∧ (parseMethodDescriptor yX5_reckon.desc).map (fun d => d.parameters.length) = some 4 := by decide +kernel
set_option maxRecDepth 100000 in
set_option maxHeartbeats 4000000 in
theorem wX5_reckon_99 {p : Program} {l : Launch} {e : Env} {s : State} {m : MethodId} {args : Array Value} {below : List Frame} {meth : Method} {c : Code} {G : hp_G} {h0 h' : hp_H} {r : Int32} (X : hp_X p s m args meth c cX5_reckon 7 RX5 wsX5_reckon (some .int) G)  {x0 : Nat} {x2 : Int32}   {t0 : Nat} {t1 : Nat} {t2 : Nat} {t3 : Int32} {h : hp_H} {H : Heap} {locs : List Loc} {ls : Array Slot} (Y : hp_Y G h h0 s H locs) (hl : lv_has ls 7 [(0, .ref x0), (2, .int x2)]) (hF : bX5_reckon_99 x0 x2 t0 t1 t2 t3 h = some (r, h')) : W p l e rmX5_reckon s m args below meth c H locs 0 0 (MQ below (va_Qi (fun r' u => r' = r ∧ u = h') (hp_B G h0) (hp_A h0)) args s 0 0 (hp_A h0)) (F0 m 99 ls [.int t3, .ref t2, .ref t1, .ref t0]) := by
  unfold bX5_reckon_99 at hF
  obtain ⟨h2, e1, hF⟩ := hp_b hF
  refine hp_cv Y (hp_runV X Y (ci := 4) (As := [.ref t1, .ref t2, .int t3]) (n := 3) (T := TX4) (N := 2) (mX4_takeSum l G e1) rfl (oX4_takeSum e1) gX5_reckon_X4_takeSum rfl rfl rfl ndX4_takeSum ⟨Nat.le_of_ble_eq_true rfl, Nat.le_of_ble_eq_true rfl⟩ rfl hl.1 rfl (Nat.le_of_ble_eq_true rfl) dX5_reckon_99 ⟨Nat.zero_le _, Nat.zero_le _⟩) (fun H locs Y => ?_)
  refine lv_aload_n X.1 X.2.1 dX5_reckon_102 rfl (lv_at hl 0 rfl) ?_
  refine lv_iload_n X.1 X.2.1 dX5_reckon_103 rfl (lv_at hl 1 rfl) ?_
  obtain ⟨⟨v5, h4⟩, e3, hF⟩ := hp_b hF
  refine hp_ci Y (hp_runV X Y (ci := 5) (As := [.int x2]) (n := 1) (T := TX5) (N := 6) (mX5_keepResult l G e3) rfl (oX5_keepResult e3) gX5_reckon_X5_keepResult rfl rfl rfl ndX5_keepResult ⟨Nat.le_of_ble_eq_true rfl, Nat.le_of_ble_eq_true rfl⟩ rfl hl.1 rfl (Nat.le_of_ble_eq_true rfl) dX5_reckon_104 ⟨Nat.zero_le _, Nat.zero_le _⟩) (fun H locs Y => ?_)
  cases hF
  exact hp_ri X Y rfl rfl dX5_reckon_107
theorem oX5_reckon {x0 : Nat} {x1 : Int32} {x2 : Int32} {x3 : Int32} {x4 : Int32} {h h' : hp_H} {r : Int32} (hF : fX5_reckon x0 x1 x2 x3 x4 h = some (r, h')) : hp_o h x0 5 = true := by
  unfold fX5_reckon at hF
  exact (hp_ift hF).1
set_option maxRecDepth 100000 in
set_option maxHeartbeats 4000000 in
theorem mX5_reckon (l : Launch) (G : hp_G) {x0 : Nat} {x1 : Int32} {x2 : Int32} {x3 : Int32} {x4 : Int32} {h h' : hp_H} {r : Int32} (hF : fX5_reckon x0 x1 x2 x3 x4 h = some (r, h')) : Met l yX5_reckon wsX5_reckon rmX5_reckon (va_Pc [.ref x0, .int x1, .int x2, .int x3, .int x4] (hp_S G h)) (va_Qi (fun r' u => r' = r ∧ u = h') (hp_B G h) (hp_A h)) 0 0 (hp_A h) := by
  refine hp_met (cc := cX5_reckon) (nL := 7) (ret := (some .int)) (by decide) rfl ?_
  intro p e s m below meth c X Y
  have hl := lv_entry ([.ref x0, .int x1, .int x2, .int x3, .int x4]) (n := 7) (Nat.le_of_ble_eq_true rfl)
  rw [lg_entry_eq]
  generalize (lg_sl ([.ref x0, .int x1, .int x2, .int x3, .int x4]) ++ List.replicate (7 - (lg_sl ([.ref x0, .int x1, .int x2, .int x3, .int x4])).length) Slot.unset).toArray = ls at hl ⊢
  have hl : lv_has ls 7 [(0, .ref x0), (1, .int x1), (2, .int x2), (3, .int x3), (4, .int x4)] := hl
  unfold fX5_reckon at hF
  obtain ⟨ho, hF⟩ := hp_ift hF
  refine lv_iload_n X.1 X.2.1 dX5_reckon_0 rfl (lv_at hl 2 rfl) ?_
  refine lv_iload_n X.1 X.2.1 dX5_reckon_1 rfl (lv_at hl 3 rfl) ?_
  refine lv_iload X.1 X.2.1 dX5_reckon_2 (lv_at hl 4 rfl) ?_
  obtain ⟨v2, e1, hF⟩ := hp_b hF
  refine hp_ci Y (hp_runS X Y (As := [.int x2, .int x3, .int x4]) (n := 3) (mX5_areRegisters l G e1) gX5_reckon_X5_areRegisters rfl rfl rfl ndX5_areRegisters ⟨Nat.le_of_ble_eq_true rfl, Nat.le_of_ble_eq_true rfl⟩ rfl hl.1 rfl (Nat.le_of_ble_eq_true rfl) dX5_reckon_4 ⟨Nat.zero_le _, Nat.zero_le _⟩) (fun H locs Y => ?_)
  refine lv_if_ne (tgt := 12) X.1 X.2.1 dX5_reckon_7 (by decide) (fun c3 => ?_) (fun c3 => ?_)
  · have hF := hp_ifn (c3) hF
    refine lv_aload_n X.1 X.2.1 dX5_reckon_12 rfl (lv_at hl 0 rfl) ?_
    obtain ⟨v4, e5, hF⟩ := hp_b hF
    refine hp_getr X Y (C := RX5) (T := TX5) (N := 6) (ci := 5) (k := 0) rfl inX5_reckon_X5 (by decide) lkX5_reckon_f11 e5 dX5_reckon_13 ?_
    refine lv_iload_n X.1 X.2.1 dX5_reckon_16 rfl (lv_at hl 3 rfl) ?_
    obtain ⟨v6, e7, hF⟩ := hp_b hF
    refine hp_aald X Y e7 dX5_reckon_17 ?_
    refine lv_astore (lv' := [(5, .ref v6), (0, .ref x0), (1, .int x1), (2, .int x2), (3, .int x3), (4, .int x4)]) X.1 X.2.1 dX5_reckon_18 hl (by decide) rfl (fun ls hl => ?_)
    refine lv_aload_n X.1 X.2.1 dX5_reckon_20 rfl (lv_at hl 1 rfl) ?_
    obtain ⟨v8, e9, hF⟩ := hp_b hF
    refine hp_getr X Y (C := RX5) (T := TX5) (N := 6) (ci := 5) (k := 0) rfl inX5_reckon_X5 (by decide) lkX5_reckon_f11 e9 dX5_reckon_21 ?_
    refine lv_iload X.1 X.2.1 dX5_reckon_24 (lv_at hl 5 rfl) ?_
    obtain ⟨v10, e11, hF⟩ := hp_b hF
    refine hp_aald X Y e11 dX5_reckon_26 ?_
    refine lv_astore (lv' := [(6, .ref v10), (5, .ref v6), (0, .ref x0), (1, .int x1), (2, .int x2), (3, .int x3), (4, .int x4)]) X.1 X.2.1 dX5_reckon_27 hl (by decide) rfl (fun ls hl => ?_)
    refine lv_iload_n X.1 X.2.1 dX5_reckon_29 rfl (lv_at hl 3 rfl) ?_
    by_cases c12 : x1 = (0 : Int32)
    · have hF := hp_ifp c12 hF
      refine lv_tableIn (off := 26) (tgt := 56) X.1 X.2.1 dX5_reckon_30 (by rw [c12]; decide) (by rw [c12]; decide) (by rw [c12]; rfl) (by decide) ?_
      refine lv_aload_n X.1 X.2.1 dX5_reckon_56 rfl (lv_at hl 2 rfl) ?_
      obtain ⟨v13, e14, hF⟩ := hp_b hF
      refine hp_getr X Y (C := RX5) (T := TX5) (N := 6) (ci := 5) (k := 1) rfl inX5_reckon_X5 (by decide) lkX5_reckon_f16 e14 dX5_reckon_57 ?_
      refine lv_aload X.1 X.2.1 dX5_reckon_60 (lv_at hl 1 rfl) ?_
      refine lv_aload X.1 X.2.1 dX5_reckon_62 (lv_at hl 0 rfl) ?_
      refine lv_aload X.1 X.2.1 dX5_reckon_64 (lv_at hl 0 rfl) ?_
      obtain ⟨v15, e16, hF⟩ := hp_b hF
      refine hp_geti X Y (C := RX4) (T := TX4) (N := 2) (ci := 4) (k := 1) rfl inX5_reckon_X4 (by decide) lkX5_reckon_f56 e16 dX5_reckon_66 ?_
      obtain ⟨h18, e17, hF⟩ := hp_b hF
      refine hp_cv Y (hp_runV X Y (ci := 4) (As := [.ref v6, .ref v10, .int v15]) (n := 3) (T := TX4) (N := 2) (mX4_takeSum l G e17) rfl (oX4_takeSum e17) gX5_reckon_X4_takeSum rfl rfl rfl ndX4_takeSum ⟨Nat.le_of_ble_eq_true rfl, Nat.le_of_ble_eq_true rfl⟩ rfl hl.1 rfl (Nat.le_of_ble_eq_true rfl) dX5_reckon_69 ⟨Nat.zero_le _, Nat.zero_le _⟩) (fun H locs Y => ?_)
      refine lv_aload_n X.1 X.2.1 dX5_reckon_72 rfl (lv_at hl 2 rfl) ?_
      refine lv_iload_n X.1 X.2.1 dX5_reckon_73 rfl (lv_at hl 4 rfl) ?_
      obtain ⟨⟨v21, h20⟩, e19, hF⟩ := hp_b hF
      refine hp_ci Y (hp_runV X Y (ci := 5) (As := [.int x2]) (n := 1) (T := TX5) (N := 6) (mX5_keepResult l G e19) rfl (oX5_keepResult e19) gX5_reckon_X5_keepResult rfl rfl rfl ndX5_keepResult ⟨Nat.le_of_ble_eq_true rfl, Nat.le_of_ble_eq_true rfl⟩ rfl hl.1 rfl (Nat.le_of_ble_eq_true rfl) dX5_reckon_74 ⟨Nat.zero_le _, Nat.zero_le _⟩) (fun H locs Y => ?_)
      cases hF
      exact hp_ri X Y rfl rfl dX5_reckon_77
    have hF := hp_ifn c12 hF
    by_cases c23 : x1 = (1 : Int32)
    · have hF := hp_ifp c23 hF
      refine lv_tableIn (off := 48) (tgt := 78) X.1 X.2.1 dX5_reckon_30 (by rw [c23]; decide) (by rw [c23]; decide) (by rw [c23]; rfl) (by decide) ?_
      refine lv_aload_n X.1 X.2.1 dX5_reckon_78 rfl (lv_at hl 2 rfl) ?_
      obtain ⟨v24, e25, hF⟩ := hp_b hF
      refine hp_getr X Y (C := RX5) (T := TX5) (N := 6) (ci := 5) (k := 1) rfl inX5_reckon_X5 (by decide) lkX5_reckon_f16 e25 dX5_reckon_79 ?_
      refine lv_aload X.1 X.2.1 dX5_reckon_82 (lv_at hl 1 rfl) ?_
      refine lv_aload X.1 X.2.1 dX5_reckon_84 (lv_at hl 0 rfl) ?_
      refine lv_aload X.1 X.2.1 dX5_reckon_86 (lv_at hl 0 rfl) ?_
      obtain ⟨v26, e27, hF⟩ := hp_b hF
      refine hp_geti X Y (C := RX4) (T := TX4) (N := 2) (ci := 4) (k := 1) rfl inX5_reckon_X4 (by decide) lkX5_reckon_f56 e27 dX5_reckon_88 ?_
      refine lv_if_ne (tgt := 98) X.1 X.2.1 dX5_reckon_91 (by decide) (fun c28 => ?_) (fun c28 => ?_)
      · have hF := hp_ifn (c28) hF
        refine lv_iconst (v := 0) X.1 X.2.1 dX5_reckon_98 (by decide) ?_
        exact wX5_reckon_99 X  Y (lv_sub hl [2, 4] rfl) hF
      · have hF := hp_ifp (c28) hF
        refine lv_iconst (v := 1) X.1 X.2.1 dX5_reckon_94 (by decide) ?_
        refine lv_goto (tgt := 99) X.1 X.2.1 dX5_reckon_95 (by decide) ?_
        exact wX5_reckon_99 X  Y (lv_sub hl [2, 4] rfl) hF
    have hF := hp_ifn c23 hF
    by_cases c29 : x1 = (2 : Int32)
    · have hF := hp_ifp c29 hF
      refine lv_tableIn (off := 78) (tgt := 108) X.1 X.2.1 dX5_reckon_30 (by rw [c29]; decide) (by rw [c29]; decide) (by rw [c29]; rfl) (by decide) ?_
      refine lv_aload_n X.1 X.2.1 dX5_reckon_108 rfl (lv_at hl 2 rfl) ?_
      obtain ⟨v30, e31, hF⟩ := hp_b hF
      refine hp_getr X Y (C := RX5) (T := TX5) (N := 6) (ci := 5) (k := 1) rfl inX5_reckon_X5 (by decide) lkX5_reckon_f16 e31 dX5_reckon_109 ?_
      refine lv_aload X.1 X.2.1 dX5_reckon_112 (lv_at hl 1 rfl) ?_
      refine lv_aload X.1 X.2.1 dX5_reckon_114 (lv_at hl 0 rfl) ?_
      obtain ⟨⟨v34, h33⟩, e32, hF⟩ := hp_b hF
      refine hp_ci Y (hp_runV X Y (ci := 4) (As := [.ref v6, .ref v10]) (n := 2) (T := TX4) (N := 2) (mX4_takeProduct l G e32) rfl (oX4_takeProduct e32) gX5_reckon_X4_takeProduct rfl rfl rfl ndX4_takeProduct ⟨Nat.le_of_ble_eq_true rfl, Nat.le_of_ble_eq_true rfl⟩ rfl hl.1 rfl (Nat.le_of_ble_eq_true rfl) dX5_reckon_116 ⟨Nat.zero_le _, Nat.zero_le _⟩) (fun H locs Y => ?_)
      refine lv_if_eq (tgt := 130) X.1 X.2.1 dX5_reckon_119 (by decide) (fun c36 => ?_) (fun c36 => ?_)
      · have hF := hp_ifp (c36) hF
        refine lv_iconst (v := -1) X.1 X.2.1 dX5_reckon_130 (by decide) ?_
        cases hF
        exact hp_ri X Y rfl rfl dX5_reckon_131
      · have hF := hp_ifn (c36) hF
        refine lv_aload_n X.1 X.2.1 dX5_reckon_122 rfl (lv_at hl 2 rfl) ?_
        refine lv_iload_n X.1 X.2.1 dX5_reckon_123 rfl (lv_at hl 4 rfl) ?_
        obtain ⟨⟨v39, h38⟩, e37, hF⟩ := hp_b hF
        refine hp_ci Y (hp_runV X Y (ci := 5) (As := [.int x2]) (n := 1) (T := TX5) (N := 6) (mX5_keepResult l G e37) rfl (oX5_keepResult e37) gX5_reckon_X5_keepResult rfl rfl rfl ndX5_keepResult ⟨Nat.le_of_ble_eq_true rfl, Nat.le_of_ble_eq_true rfl⟩ rfl hl.1 rfl (Nat.le_of_ble_eq_true rfl) dX5_reckon_124 ⟨Nat.zero_le _, Nat.zero_le _⟩) (fun H locs Y => ?_)
        refine lv_goto (tgt := 131) X.1 X.2.1 dX5_reckon_127 (by decide) ?_
        cases hF
        exact hp_ri X Y rfl rfl dX5_reckon_131
    have hF := hp_ifn c29 hF
    refine lv_tableOut (tgt := 132) X.1 X.2.1 dX5_reckon_30 (hp_out3 c12 c23 c29) (by decide) ?_
    refine lv_iconst (v := -1) X.1 X.2.1 dX5_reckon_132 (by decide) ?_
    cases hF
    exact hp_ri X Y rfl rfl dX5_reckon_133
  · have hF := hp_ifp (c3) hF
    refine lv_iconst (v := -1) X.1 X.2.1 dX5_reckon_10 (by decide) ?_
    cases hF
    exact hp_ri X Y rfl rfl dX5_reckon_11

/-! WholeNumbers.gcd -/
def rmX5_gcd : Room := { frames := 6, cells := 0, slots := 0, locals := 151 }
def fX5_gcd (x0 : Nat) (x1 : Int32) (x2 : Int32) (x3 : Int32) (h : hp_H) : Option (Int32 × hp_H) :=
  if hp_o h x0 5 = true then
  (fX5_areRegisters x1 x2 x3).bind fun v2 =>
  if v2 = 0 then (
    some ((-1 : Int32), h))
  else (
    (hp_gr h x0 5 1).bind fun v4 =>
    (hp_gr h v4 4 0).bind fun v6 =>
    (hp_gr h x0 5 4).bind fun v8 =>
    (hp_gr h x0 5 0).bind fun v10 =>
    (hp_ar h v10 x2).bind fun v12 =>
    (hp_gr h v12 4 0).bind fun v14 =>
    (hp_gr h x0 5 0).bind fun v16 =>
    (hp_ar h v16 x3).bind fun v18 =>
    (hp_gr h v18 4 0).bind fun v20 =>
    (hp_gr h x0 5 3).bind fun v22 =>
    (fX0_commonDivisor v8 v14 v20 v22 h).bind fun (v26, h25) =>
    (fX2_take v6 v26 h25).bind fun h29 =>
    (hp_gr h29 x0 5 1).bind fun v30 =>
    (fX4_takeSign v30 (0 : Int32) h29).bind fun h33 =>
    (fX5_keepResult x0 x1 h33).bind fun (v36, h35) =>
    some (v36, h35))
  else none
theorem inX5_gcd_X4 : ∀ w ∈ wsX40, w ∈ wsX5_gcd := by decide +kernel
theorem inX5_gcd_X5 : ∀ w ∈ wsX50, w ∈ wsX5_gcd := by decide +kernel
theorem lkX5_gcd_f16 : Cond.fieldLink RX5 16 (TX5 1).1 (TX5 1).2.1 (TX5 1).2.2.1 ∈ wsX5_gcd := by decide +kernel
theorem lkX5_gcd_f72 : Cond.fieldLink RX5 72 (TX4 0).1 (TX4 0).2.1 (TX4 0).2.2.1 ∈ wsX5_gcd := by decide +kernel
theorem lkX5_gcd_f33 : Cond.fieldLink RX5 33 (TX5 4).1 (TX5 4).2.1 (TX5 4).2.2.1 ∈ wsX5_gcd := by decide +kernel
theorem lkX5_gcd_f11 : Cond.fieldLink RX5 11 (TX5 0).1 (TX5 0).2.1 (TX5 0).2.2.1 ∈ wsX5_gcd := by decide +kernel
theorem lkX5_gcd_f26 : Cond.fieldLink RX5 26 (TX5 3).1 (TX5 3).2.1 (TX5 3).2.2.1 ∈ wsX5_gcd := by decide +kernel
theorem ndX5_gcd : yX5_gcd.cls ≠ "java/lang/invoke/MethodHandle" ∧ yX5_gcd.cls ≠ "java/lang/invoke/VarHandle" ∧ (parseMethodDescriptor yX5_gcd.desc).map (fun d => d.parameters.length) = some 3 := by decide +kernel
theorem oX5_gcd {x0 : Nat} {x1 : Int32} {x2 : Int32} {x3 : Int32} {h h' : hp_H} {r : Int32} (hF : fX5_gcd x0 x1 x2 x3 h = some (r, h')) : hp_o h x0 5 = true := by
  unfold fX5_gcd at hF
  exact (hp_ift hF).1
set_option maxRecDepth 100000 in
set_option maxHeartbeats 4000000 in
theorem mX5_gcd (l : Launch) (G : hp_G) {x0 : Nat} {x1 : Int32} {x2 : Int32} {x3 : Int32} {h h' : hp_H} {r : Int32} (hF : fX5_gcd x0 x1 x2 x3 h = some (r, h')) : Met l yX5_gcd wsX5_gcd rmX5_gcd (va_Pc [.ref x0, .int x1, .int x2, .int x3] (hp_S G h)) (va_Qi (fun r' u => r' = r ∧ u = h') (hp_B G h) (hp_A h)) 0 0 (hp_A h) := by
  refine hp_met (cc := cX5_gcd) (nL := 4) (ret := (some .int)) (by decide) rfl ?_
  intro p e s m below meth c X Y
  have hl := lv_entry ([.ref x0, .int x1, .int x2, .int x3]) (n := 4) (Nat.le_of_ble_eq_true rfl)
  rw [lg_entry_eq]
  generalize (lg_sl ([.ref x0, .int x1, .int x2, .int x3]) ++ List.replicate (4 - (lg_sl ([.ref x0, .int x1, .int x2, .int x3])).length) Slot.unset).toArray = ls at hl ⊢
  have hl : lv_has ls 4 [(0, .ref x0), (1, .int x1), (2, .int x2), (3, .int x3)] := hl
  unfold fX5_gcd at hF
  obtain ⟨ho, hF⟩ := hp_ift hF
  refine lv_iload_n X.1 X.2.1 dX5_gcd_0 rfl (lv_at hl 1 rfl) ?_
  refine lv_iload_n X.1 X.2.1 dX5_gcd_1 rfl (lv_at hl 2 rfl) ?_
  refine lv_iload_n X.1 X.2.1 dX5_gcd_2 rfl (lv_at hl 3 rfl) ?_
  obtain ⟨v2, e1, hF⟩ := hp_b hF
  refine hp_ci Y (hp_runS X Y (As := [.int x1, .int x2, .int x3]) (n := 3) (mX5_areRegisters l G e1) gX5_gcd_X5_areRegisters rfl rfl rfl ndX5_areRegisters ⟨Nat.le_of_ble_eq_true rfl, Nat.le_of_ble_eq_true rfl⟩ rfl hl.1 rfl (Nat.le_of_ble_eq_true rfl) dX5_gcd_3 ⟨Nat.zero_le _, Nat.zero_le _⟩) (fun H locs Y => ?_)
  refine lv_if_ne (tgt := 11) X.1 X.2.1 dX5_gcd_6 (by decide) (fun c3 => ?_) (fun c3 => ?_)
  · have hF := hp_ifn (c3) hF
    refine lv_aload_n X.1 X.2.1 dX5_gcd_11 rfl (lv_at hl 0 rfl) ?_
    obtain ⟨v4, e5, hF⟩ := hp_b hF
    refine hp_getr X Y (C := RX5) (T := TX5) (N := 6) (ci := 5) (k := 1) rfl inX5_gcd_X5 (by decide) lkX5_gcd_f16 e5 dX5_gcd_12 ?_
    obtain ⟨v6, e7, hF⟩ := hp_b hF
    refine hp_getr X Y (C := RX4) (T := TX4) (N := 2) (ci := 4) (k := 0) rfl inX5_gcd_X4 (by decide) lkX5_gcd_f72 e7 dX5_gcd_15 ?_
    refine lv_aload_n X.1 X.2.1 dX5_gcd_18 rfl (lv_at hl 0 rfl) ?_
    obtain ⟨v8, e9, hF⟩ := hp_b hF
    refine hp_getr X Y (C := RX5) (T := TX5) (N := 6) (ci := 5) (k := 4) rfl inX5_gcd_X5 (by decide) lkX5_gcd_f33 e9 dX5_gcd_19 ?_
    refine lv_aload_n X.1 X.2.1 dX5_gcd_22 rfl (lv_at hl 0 rfl) ?_
    obtain ⟨v10, e11, hF⟩ := hp_b hF
    refine hp_getr X Y (C := RX5) (T := TX5) (N := 6) (ci := 5) (k := 0) rfl inX5_gcd_X5 (by decide) lkX5_gcd_f11 e11 dX5_gcd_23 ?_
    refine lv_iload_n X.1 X.2.1 dX5_gcd_26 rfl (lv_at hl 2 rfl) ?_
    obtain ⟨v12, e13, hF⟩ := hp_b hF
    refine hp_aald X Y e13 dX5_gcd_27 ?_
    obtain ⟨v14, e15, hF⟩ := hp_b hF
    refine hp_getr X Y (C := RX4) (T := TX4) (N := 2) (ci := 4) (k := 0) rfl inX5_gcd_X4 (by decide) lkX5_gcd_f72 e15 dX5_gcd_28 ?_
    refine lv_aload_n X.1 X.2.1 dX5_gcd_31 rfl (lv_at hl 0 rfl) ?_
    obtain ⟨v16, e17, hF⟩ := hp_b hF
    refine hp_getr X Y (C := RX5) (T := TX5) (N := 6) (ci := 5) (k := 0) rfl inX5_gcd_X5 (by decide) lkX5_gcd_f11 e17 dX5_gcd_32 ?_
    refine lv_iload_n X.1 X.2.1 dX5_gcd_35 rfl (lv_at hl 3 rfl) ?_
    obtain ⟨v18, e19, hF⟩ := hp_b hF
    refine hp_aald X Y e19 dX5_gcd_36 ?_
    obtain ⟨v20, e21, hF⟩ := hp_b hF
    refine hp_getr X Y (C := RX4) (T := TX4) (N := 2) (ci := 4) (k := 0) rfl inX5_gcd_X4 (by decide) lkX5_gcd_f72 e21 dX5_gcd_37 ?_
    refine lv_aload_n X.1 X.2.1 dX5_gcd_40 rfl (lv_at hl 0 rfl) ?_
    obtain ⟨v22, e23, hF⟩ := hp_b hF
    refine hp_getr X Y (C := RX5) (T := TX5) (N := 6) (ci := 5) (k := 3) rfl inX5_gcd_X5 (by decide) lkX5_gcd_f26 e23 dX5_gcd_41 ?_
    obtain ⟨⟨v26, h25⟩, e24, hF⟩ := hp_b hF
    refine hp_cr Y (hp_runV X Y (ci := 0) (As := [.ref v14, .ref v20, .ref v22]) (n := 3) (T := TX0) (N := 6) (mX0_commonDivisor l G e24) rfl (oX0_commonDivisor e24) gX5_gcd_X0_commonDivisor rfl rfl rfl ndX0_commonDivisor ⟨Nat.le_of_ble_eq_true rfl, Nat.le_of_ble_eq_true rfl⟩ rfl hl.1 rfl (Nat.le_of_ble_eq_true rfl) dX5_gcd_44 ⟨Nat.zero_le _, Nat.zero_le _⟩) (fun H locs Y => ?_)
    obtain ⟨h29, e28, hF⟩ := hp_b hF
    refine hp_cv Y (hp_runV X Y (ci := 2) (As := [.ref v26]) (n := 1) (T := TX2) (N := 2) (mX2_take l G e28) rfl (oX2_take e28) gX5_gcd_X2_take rfl rfl rfl ndX2_take ⟨Nat.le_of_ble_eq_true rfl, Nat.le_of_ble_eq_true rfl⟩ rfl hl.1 rfl (Nat.le_of_ble_eq_true rfl) dX5_gcd_47 ⟨Nat.zero_le _, Nat.zero_le _⟩) (fun H locs Y => ?_)
    refine lv_aload_n X.1 X.2.1 dX5_gcd_50 rfl (lv_at hl 0 rfl) ?_
    obtain ⟨v30, e31, hF⟩ := hp_b hF
    refine hp_getr X Y (C := RX5) (T := TX5) (N := 6) (ci := 5) (k := 1) rfl inX5_gcd_X5 (by decide) lkX5_gcd_f16 e31 dX5_gcd_51 ?_
    refine lv_iconst (v := 0) X.1 X.2.1 dX5_gcd_54 (by decide) ?_
    obtain ⟨h33, e32, hF⟩ := hp_b hF
    refine hp_cv Y (hp_runV X Y (ci := 4) (As := [.int (0 : Int32)]) (n := 1) (T := TX4) (N := 2) (mX4_takeSign l G e32) rfl (oX4_takeSign e32) gX5_gcd_X4_takeSign rfl rfl rfl ndX4_takeSign ⟨Nat.le_of_ble_eq_true rfl, Nat.le_of_ble_eq_true rfl⟩ rfl hl.1 rfl (Nat.le_of_ble_eq_true rfl) dX5_gcd_55 ⟨Nat.zero_le _, Nat.zero_le _⟩) (fun H locs Y => ?_)
    refine lv_aload_n X.1 X.2.1 dX5_gcd_58 rfl (lv_at hl 0 rfl) ?_
    refine lv_iload_n X.1 X.2.1 dX5_gcd_59 rfl (lv_at hl 1 rfl) ?_
    obtain ⟨⟨v36, h35⟩, e34, hF⟩ := hp_b hF
    refine hp_ci Y (hp_runV X Y (ci := 5) (As := [.int x1]) (n := 1) (T := TX5) (N := 6) (mX5_keepResult l G e34) rfl (oX5_keepResult e34) gX5_gcd_X5_keepResult rfl rfl rfl ndX5_keepResult ⟨Nat.le_of_ble_eq_true rfl, Nat.le_of_ble_eq_true rfl⟩ rfl hl.1 rfl (Nat.le_of_ble_eq_true rfl) dX5_gcd_60 ⟨Nat.zero_le _, Nat.zero_le _⟩) (fun H locs Y => ?_)
    cases hF
    exact hp_ri X Y rfl rfl dX5_gcd_63
  · have hF := hp_ifp (c3) hF
    refine lv_iconst (v := -1) X.1 X.2.1 dX5_gcd_9 (by decide) ?_
    cases hF
    exact hp_ri X Y rfl rfl dX5_gcd_10

/-! WholeNumbers.shift -/
def rmX5_shift : Room := { frames := 4, cells := 0, slots := 0, locals := 112 }
def bX5_shift_110  (x0 : Nat) (x1 : Int32) (x4 : Nat)  (h : hp_H) : Option (Int32 × hp_H) :=
  (hp_gr h x0 5 1).bind fun v1 =>
  (hp_gi h x4 4 1).bind fun v3 =>
  (fX4_takeSign v1 v3 h).bind fun h6 =>
  (fX5_keepResult x0 x1 h6).bind fun (v9, h8) =>
  some (v9, h8)
def bX5_shift_89  (x0 : Nat) (x1 : Int32) (x3 : Int32) (x4 : Nat)  (h : hp_H) : Option (Int32 × hp_H) :=
  (hp_gr h x0 5 1).bind fun v1 =>
  (hp_gr h v1 4 0).bind fun v3 =>
  (hp_gr h x4 4 0).bind fun v5 =>
  (fX2_shiftUp v3 v5 x3 h).bind fun h8 =>
  bX5_shift_110 x0 x1 x4 h8
def fX5_shift (x0 : Nat) (x1 : Int32) (x2 : Int32) (x3 : Int32) (h : hp_H) : Option (Int32 × hp_H) :=
  if hp_o h x0 5 = true then
  (fX5_isRegister x1).bind fun v2 =>
  if v2 = 0 then (
    some ((-1 : Int32), h))
  else (
    (fX5_isRegister x2).bind fun v5 =>
    if v5 = 0 then (
      some ((-1 : Int32), h))
    else (
      if x3 < (-4096 : Int32) then (
        some ((-1 : Int32), h))
      else (
        if x3 ≤ (4096 : Int32) then (
          (hp_gr h x0 5 0).bind fun v9 =>
          (hp_ar h v9 x2).bind fun v11 =>
          if 0 < x3 then (
            (hp_gr h v11 4 0).bind fun v14 =>
            (fX2_isZero v14 h).bind fun v17 =>
            if v17 = 0 then (
              (hp_gr h v11 4 0).bind fun v19 =>
              (fX2_bitLength v19 h).bind fun v22 =>
              if (4096 : Int32) < (v22 + x3) then (
                some ((-1 : Int32), h))
              else (
                bX5_shift_89 x0 x1 x3 v11 h))
            else (
              bX5_shift_89 x0 x1 x3 v11 h))
          else (
            (hp_gr h x0 5 1).bind fun v24 =>
            (hp_gr h v24 4 0).bind fun v26 =>
            (hp_gr h v11 4 0).bind fun v28 =>
            (fX2_shiftDown v26 v28 (-x3) h).bind fun h31 =>
            bX5_shift_110 x0 x1 v11 h31))
        else (
          some ((-1 : Int32), h)))))
  else none
theorem inX5_shift_X4 : ∀ w ∈ wsX40, w ∈ wsX5_shift := by decide +kernel
theorem inX5_shift_X5 : ∀ w ∈ wsX50, w ∈ wsX5_shift := by decide +kernel
theorem lkX5_shift_f16 : Cond.fieldLink RX5 16 (TX5 1).1 (TX5 1).2.1 (TX5 1).2.2.1 ∈ wsX5_shift := by decide +kernel
theorem lkX5_shift_f56 : Cond.fieldLink RX5 56 (TX4 1).1 (TX4 1).2.1 (TX4 1).2.2.1 ∈ wsX5_shift := by decide +kernel
theorem lkX5_shift_f72 : Cond.fieldLink RX5 72 (TX4 0).1 (TX4 0).2.1 (TX4 0).2.2.1 ∈ wsX5_shift := by decide +kernel
theorem lkX5_shift_f11 : Cond.fieldLink RX5 11 (TX5 0).1 (TX5 0).2.1 (TX5 0).2.2.1 ∈ wsX5_shift := by decide +kernel
theorem ndX5_shift : yX5_shift.cls ≠ "java/lang/invoke/MethodHandle" ∧ yX5_shift.cls ≠ "java/lang/invoke/VarHandle" ∧ (parseMethodDescriptor yX5_shift.desc).map (fun d => d.parameters.length) = some 3 := by decide +kernel
set_option maxRecDepth 100000 in
set_option maxHeartbeats 4000000 in
theorem wX5_shift_110 {p : Program} {l : Launch} {e : Env} {s : State} {m : MethodId} {args : Array Value} {below : List Frame} {meth : Method} {c : Code} {G : hp_G} {h0 h' : hp_H} {r : Int32} (X : hp_X p s m args meth c cX5_shift 5 RX5 wsX5_shift (some .int) G)  {x0 : Nat} {x1 : Int32} {x4 : Nat}   {h : hp_H} {H : Heap} {locs : List Loc} {ls : Array Slot} (Y : hp_Y G h h0 s H locs) (hl : lv_has ls 5 [(0, .ref x0), (1, .int x1), (4, .ref x4)]) (hF : bX5_shift_110 x0 x1 x4 h = some (r, h')) : W p l e rmX5_shift s m args below meth c H locs 0 0 (MQ below (va_Qi (fun r' u => r' = r ∧ u = h') (hp_B G h0) (hp_A h0)) args s 0 0 (hp_A h0)) (F0 m 110 ls []) := by
  unfold bX5_shift_110 at hF
  refine lv_aload_n X.1 X.2.1 dX5_shift_110 rfl (lv_at hl 0 rfl) ?_
  obtain ⟨v1, e2, hF⟩ := hp_b hF
  refine hp_getr X Y (C := RX5) (T := TX5) (N := 6) (ci := 5) (k := 1) rfl inX5_shift_X5 (by decide) lkX5_shift_f16 e2 dX5_shift_111 ?_
  refine lv_aload X.1 X.2.1 dX5_shift_114 (lv_at hl 2 rfl) ?_
  obtain ⟨v3, e4, hF⟩ := hp_b hF
  refine hp_geti X Y (C := RX4) (T := TX4) (N := 2) (ci := 4) (k := 1) rfl inX5_shift_X4 (by decide) lkX5_shift_f56 e4 dX5_shift_116 ?_
  obtain ⟨h6, e5, hF⟩ := hp_b hF
  refine hp_cv Y (hp_runV X Y (ci := 4) (As := [.int v3]) (n := 1) (T := TX4) (N := 2) (mX4_takeSign l G e5) rfl (oX4_takeSign e5) gX5_shift_X4_takeSign rfl rfl rfl ndX4_takeSign ⟨Nat.le_of_ble_eq_true rfl, Nat.le_of_ble_eq_true rfl⟩ rfl hl.1 rfl (Nat.le_of_ble_eq_true rfl) dX5_shift_119 ⟨Nat.zero_le _, Nat.zero_le _⟩) (fun H locs Y => ?_)
  refine lv_aload_n X.1 X.2.1 dX5_shift_122 rfl (lv_at hl 0 rfl) ?_
  refine lv_iload_n X.1 X.2.1 dX5_shift_123 rfl (lv_at hl 1 rfl) ?_
  obtain ⟨⟨v9, h8⟩, e7, hF⟩ := hp_b hF
  refine hp_ci Y (hp_runV X Y (ci := 5) (As := [.int x1]) (n := 1) (T := TX5) (N := 6) (mX5_keepResult l G e7) rfl (oX5_keepResult e7) gX5_shift_X5_keepResult rfl rfl rfl ndX5_keepResult ⟨Nat.le_of_ble_eq_true rfl, Nat.le_of_ble_eq_true rfl⟩ rfl hl.1 rfl (Nat.le_of_ble_eq_true rfl) dX5_shift_124 ⟨Nat.zero_le _, Nat.zero_le _⟩) (fun H locs Y => ?_)
  cases hF
  exact hp_ri X Y rfl rfl dX5_shift_127
set_option maxRecDepth 100000 in
set_option maxHeartbeats 4000000 in
theorem wX5_shift_89 {p : Program} {l : Launch} {e : Env} {s : State} {m : MethodId} {args : Array Value} {below : List Frame} {meth : Method} {c : Code} {G : hp_G} {h0 h' : hp_H} {r : Int32} (X : hp_X p s m args meth c cX5_shift 5 RX5 wsX5_shift (some .int) G)  {x0 : Nat} {x1 : Int32} {x3 : Int32} {x4 : Nat}   {h : hp_H} {H : Heap} {locs : List Loc} {ls : Array Slot} (Y : hp_Y G h h0 s H locs) (hl : lv_has ls 5 [(0, .ref x0), (1, .int x1), (3, .int x3), (4, .ref x4)]) (hF : bX5_shift_89 x0 x1 x3 x4 h = some (r, h')) : W p l e rmX5_shift s m args below meth c H locs 0 0 (MQ below (va_Qi (fun r' u => r' = r ∧ u = h') (hp_B G h0) (hp_A h0)) args s 0 0 (hp_A h0)) (F0 m 89 ls []) := by
  unfold bX5_shift_89 at hF
  refine lv_aload_n X.1 X.2.1 dX5_shift_89 rfl (lv_at hl 0 rfl) ?_
  obtain ⟨v1, e2, hF⟩ := hp_b hF
  refine hp_getr X Y (C := RX5) (T := TX5) (N := 6) (ci := 5) (k := 1) rfl inX5_shift_X5 (by decide) lkX5_shift_f16 e2 dX5_shift_90 ?_
  obtain ⟨v3, e4, hF⟩ := hp_b hF
  refine hp_getr X Y (C := RX4) (T := TX4) (N := 2) (ci := 4) (k := 0) rfl inX5_shift_X4 (by decide) lkX5_shift_f72 e4 dX5_shift_93 ?_
  refine lv_aload X.1 X.2.1 dX5_shift_96 (lv_at hl 3 rfl) ?_
  obtain ⟨v5, e6, hF⟩ := hp_b hF
  refine hp_getr X Y (C := RX4) (T := TX4) (N := 2) (ci := 4) (k := 0) rfl inX5_shift_X4 (by decide) lkX5_shift_f72 e6 dX5_shift_98 ?_
  refine lv_iload_n X.1 X.2.1 dX5_shift_101 rfl (lv_at hl 2 rfl) ?_
  obtain ⟨h8, e7, hF⟩ := hp_b hF
  refine hp_cv Y (hp_runV X Y (ci := 2) (As := [.ref v5, .int x3]) (n := 2) (T := TX2) (N := 2) (mX2_shiftUp l G e7) rfl (oX2_shiftUp e7) gX5_shift_X2_shiftUp rfl rfl rfl ndX2_shiftUp ⟨Nat.le_of_ble_eq_true rfl, Nat.le_of_ble_eq_true rfl⟩ rfl hl.1 rfl (Nat.le_of_ble_eq_true rfl) dX5_shift_102 ⟨Nat.zero_le _, Nat.zero_le _⟩) (fun H locs Y => ?_)
  refine lv_goto (tgt := 110) X.1 X.2.1 dX5_shift_105 (by decide) ?_
  exact wX5_shift_110 X  Y (lv_sub hl [0, 1, 3] rfl) hF
theorem oX5_shift {x0 : Nat} {x1 : Int32} {x2 : Int32} {x3 : Int32} {h h' : hp_H} {r : Int32} (hF : fX5_shift x0 x1 x2 x3 h = some (r, h')) : hp_o h x0 5 = true := by
  unfold fX5_shift at hF
  exact (hp_ift hF).1
set_option maxRecDepth 100000 in
set_option maxHeartbeats 4000000 in
theorem mX5_shift (l : Launch) (G : hp_G) {x0 : Nat} {x1 : Int32} {x2 : Int32} {x3 : Int32} {h h' : hp_H} {r : Int32} (hF : fX5_shift x0 x1 x2 x3 h = some (r, h')) : Met l yX5_shift wsX5_shift rmX5_shift (va_Pc [.ref x0, .int x1, .int x2, .int x3] (hp_S G h)) (va_Qi (fun r' u => r' = r ∧ u = h') (hp_B G h) (hp_A h)) 0 0 (hp_A h) := by
  refine hp_met (cc := cX5_shift) (nL := 5) (ret := (some .int)) (by decide) rfl ?_
  intro p e s m below meth c X Y
  have hl := lv_entry ([.ref x0, .int x1, .int x2, .int x3]) (n := 5) (Nat.le_of_ble_eq_true rfl)
  rw [lg_entry_eq]
  generalize (lg_sl ([.ref x0, .int x1, .int x2, .int x3]) ++ List.replicate (5 - (lg_sl ([.ref x0, .int x1, .int x2, .int x3])).length) Slot.unset).toArray = ls at hl ⊢
  have hl : lv_has ls 5 [(0, .ref x0), (1, .int x1), (2, .int x2), (3, .int x3)] := hl
  unfold fX5_shift at hF
  obtain ⟨ho, hF⟩ := hp_ift hF
  refine lv_iload_n X.1 X.2.1 dX5_shift_0 rfl (lv_at hl 1 rfl) ?_
  obtain ⟨v2, e1, hF⟩ := hp_b hF
  refine hp_ci Y (hp_runS X Y (As := [.int x1]) (n := 1) (mX5_isRegister l G e1) gX5_shift_X5_isRegister rfl rfl rfl ndX5_isRegister ⟨Nat.le_of_ble_eq_true rfl, Nat.le_of_ble_eq_true rfl⟩ rfl hl.1 rfl (Nat.le_of_ble_eq_true rfl) dX5_shift_1 ⟨Nat.zero_le _, Nat.zero_le _⟩) (fun H locs Y => ?_)
  refine lv_if_eq (tgt := 28) X.1 X.2.1 dX5_shift_4 (by decide) (fun c3 => ?_) (fun c3 => ?_)
  · have hF := hp_ifp (c3) hF
    refine lv_iconst (v := -1) X.1 X.2.1 dX5_shift_28 (by decide) ?_
    cases hF
    exact hp_ri X Y rfl rfl dX5_shift_29
  · have hF := hp_ifn (c3) hF
    refine lv_iload_n X.1 X.2.1 dX5_shift_7 rfl (lv_at hl 2 rfl) ?_
    obtain ⟨v5, e4, hF⟩ := hp_b hF
    refine hp_ci Y (hp_runS X Y (As := [.int x2]) (n := 1) (mX5_isRegister l G e4) gX5_shift_X5_isRegister rfl rfl rfl ndX5_isRegister ⟨Nat.le_of_ble_eq_true rfl, Nat.le_of_ble_eq_true rfl⟩ rfl hl.1 rfl (Nat.le_of_ble_eq_true rfl) dX5_shift_8 ⟨Nat.zero_le _, Nat.zero_le _⟩) (fun H locs Y => ?_)
    refine lv_if_eq (tgt := 28) X.1 X.2.1 dX5_shift_11 (by decide) (fun c6 => ?_) (fun c6 => ?_)
    · have hF := hp_ifp (c6) hF
      refine lv_iconst (v := -1) X.1 X.2.1 dX5_shift_28 (by decide) ?_
      cases hF
      exact hp_ri X Y rfl rfl dX5_shift_29
    · have hF := hp_ifn (c6) hF
      refine lv_iload_n X.1 X.2.1 dX5_shift_14 rfl (lv_at hl 3 rfl) ?_
      refine lv_sipush (v := -4096) X.1 X.2.1 dX5_shift_15 (by decide) ?_
      refine lv_icmp_lt (tgt := 28) X.1 X.2.1 dX5_shift_18 (by decide) (fun c7 => ?_) (fun c7 => ?_)
      · have hF := hp_ifp (c7) hF
        refine lv_iconst (v := -1) X.1 X.2.1 dX5_shift_28 (by decide) ?_
        cases hF
        exact hp_ri X Y rfl rfl dX5_shift_29
      · have hF := hp_ifn (c7) hF
        refine lv_iload_n X.1 X.2.1 dX5_shift_21 rfl (lv_at hl 3 rfl) ?_
        refine lv_sipush (v := 4096) X.1 X.2.1 dX5_shift_22 (by decide) ?_
        refine lv_icmp_le (tgt := 30) X.1 X.2.1 dX5_shift_25 (by decide) (fun c8 => ?_) (fun c8 => ?_)
        · have hF := hp_ifp (c8) hF
          refine lv_aload_n X.1 X.2.1 dX5_shift_30 rfl (lv_at hl 0 rfl) ?_
          obtain ⟨v9, e10, hF⟩ := hp_b hF
          refine hp_getr X Y (C := RX5) (T := TX5) (N := 6) (ci := 5) (k := 0) rfl inX5_shift_X5 (by decide) lkX5_shift_f11 e10 dX5_shift_31 ?_
          refine lv_iload_n X.1 X.2.1 dX5_shift_34 rfl (lv_at hl 2 rfl) ?_
          obtain ⟨v11, e12, hF⟩ := hp_b hF
          refine hp_aald X Y e12 dX5_shift_35 ?_
          refine lv_astore (lv' := [(4, .ref v11), (0, .ref x0), (1, .int x1), (2, .int x2), (3, .int x3)]) X.1 X.2.1 dX5_shift_36 hl (by decide) rfl (fun ls hl => ?_)
          refine lv_iload_n X.1 X.2.1 dX5_shift_38 rfl (lv_at hl 4 rfl) ?_
          refine lv_if_gt (tgt := 62) X.1 X.2.1 dX5_shift_39 (by decide) (fun c13 => ?_) (fun c13 => ?_)
          · have hF := hp_ifp (c13) hF
            refine lv_aload X.1 X.2.1 dX5_shift_62 (lv_at hl 0 rfl) ?_
            obtain ⟨v14, e15, hF⟩ := hp_b hF
            refine hp_getr X Y (C := RX4) (T := TX4) (N := 2) (ci := 4) (k := 0) rfl inX5_shift_X4 (by decide) lkX5_shift_f72 e15 dX5_shift_64 ?_
            obtain ⟨v17, e16, hF⟩ := hp_b hF
            refine hp_ci Y (hp_runV X Y (ci := 2) (As := []) (n := 0) (T := TX2) (N := 2) (mX2_isZero l G e16) rfl (oX2_isZero e16) gX5_shift_X2_isZero rfl rfl rfl ndX2_isZero ⟨Nat.le_of_ble_eq_true rfl, Nat.le_of_ble_eq_true rfl⟩ rfl hl.1 rfl (Nat.le_of_ble_eq_true rfl) dX5_shift_67 ⟨Nat.zero_le _, Nat.zero_le _⟩) (fun H locs Y => ?_)
            refine lv_if_ne (tgt := 89) X.1 X.2.1 dX5_shift_70 (by decide) (fun c18 => ?_) (fun c18 => ?_)
            · have hF := hp_ifn (c18) hF
              exact wX5_shift_89 X  Y (lv_sub hl [1, 2, 4, 0] rfl) hF
            · have hF := hp_ifp (c18) hF
              refine lv_aload X.1 X.2.1 dX5_shift_73 (lv_at hl 0 rfl) ?_
              obtain ⟨v19, e20, hF⟩ := hp_b hF
              refine hp_getr X Y (C := RX4) (T := TX4) (N := 2) (ci := 4) (k := 0) rfl inX5_shift_X4 (by decide) lkX5_shift_f72 e20 dX5_shift_75 ?_
              obtain ⟨v22, e21, hF⟩ := hp_b hF
              refine hp_ci Y (hp_runV X Y (ci := 2) (As := []) (n := 0) (T := TX2) (N := 2) (mX2_bitLength l G e21) rfl (oX2_bitLength e21) gX5_shift_X2_bitLength rfl rfl rfl ndX2_bitLength ⟨Nat.le_of_ble_eq_true rfl, Nat.le_of_ble_eq_true rfl⟩ rfl hl.1 rfl (Nat.le_of_ble_eq_true rfl) dX5_shift_78 ⟨Nat.zero_le _, Nat.zero_le _⟩) (fun H locs Y => ?_)
              refine lv_iload_n X.1 X.2.1 dX5_shift_81 rfl (lv_at hl 4 rfl) ?_
              refine lv_iadd X.1 X.2.1 dX5_shift_82 ?_
              refine lv_sipush (v := 4096) X.1 X.2.1 dX5_shift_83 (by decide) ?_
              refine lv_icmp_gt (tgt := 108) X.1 X.2.1 dX5_shift_86 (by decide) (fun c23 => ?_) (fun c23 => ?_)
              · have hF := hp_ifp (c23) hF
                refine lv_iconst (v := -1) X.1 X.2.1 dX5_shift_108 (by decide) ?_
                cases hF
                exact hp_ri X Y rfl rfl dX5_shift_109
              · have hF := hp_ifn (c23) hF
                exact wX5_shift_89 X  Y (lv_sub hl [1, 2, 4, 0] rfl) hF
          · have hF := hp_ifn (c13) hF
            refine lv_aload_n X.1 X.2.1 dX5_shift_42 rfl (lv_at hl 1 rfl) ?_
            obtain ⟨v24, e25, hF⟩ := hp_b hF
            refine hp_getr X Y (C := RX5) (T := TX5) (N := 6) (ci := 5) (k := 1) rfl inX5_shift_X5 (by decide) lkX5_shift_f16 e25 dX5_shift_43 ?_
            obtain ⟨v26, e27, hF⟩ := hp_b hF
            refine hp_getr X Y (C := RX4) (T := TX4) (N := 2) (ci := 4) (k := 0) rfl inX5_shift_X4 (by decide) lkX5_shift_f72 e27 dX5_shift_46 ?_
            refine lv_aload X.1 X.2.1 dX5_shift_49 (lv_at hl 0 rfl) ?_
            obtain ⟨v28, e29, hF⟩ := hp_b hF
            refine hp_getr X Y (C := RX4) (T := TX4) (N := 2) (ci := 4) (k := 0) rfl inX5_shift_X4 (by decide) lkX5_shift_f72 e29 dX5_shift_51 ?_
            refine lv_iload_n X.1 X.2.1 dX5_shift_54 rfl (lv_at hl 4 rfl) ?_
            refine lv_ineg X.1 X.2.1 dX5_shift_55 ?_
            obtain ⟨h31, e30, hF⟩ := hp_b hF
            refine hp_cv Y (hp_runV X Y (ci := 2) (As := [.ref v28, .int (-x3)]) (n := 2) (T := TX2) (N := 2) (mX2_shiftDown l G e30) rfl (oX2_shiftDown e30) gX5_shift_X2_shiftDown rfl rfl rfl ndX2_shiftDown ⟨Nat.le_of_ble_eq_true rfl, Nat.le_of_ble_eq_true rfl⟩ rfl hl.1 rfl (Nat.le_of_ble_eq_true rfl) dX5_shift_56 ⟨Nat.zero_le _, Nat.zero_le _⟩) (fun H locs Y => ?_)
            refine lv_goto (tgt := 110) X.1 X.2.1 dX5_shift_59 (by decide) ?_
            exact wX5_shift_110 X  Y (lv_sub hl [1, 2, 0] rfl) hF
        · have hF := hp_ifn (c8) hF
          refine lv_iconst (v := -1) X.1 X.2.1 dX5_shift_28 (by decide) ?_
          cases hF
          exact hp_ri X Y rfl rfl dX5_shift_29

/-! WholeNumbers.multiplyResult -/
def rmX5_multiplyResult : Room := { frames := 4, cells := 0, slots := 0, locals := 90 }
def fX5_multiplyResult (x0 : Nat) (x1 : Nat) (h : hp_H) : Option (Int32 × hp_H) :=
  if hp_o h x0 5 = true then
  (hp_gr h x0 5 2).bind fun v1 =>
  (hp_gr h x0 5 1).bind fun v3 =>
  (fX4_takeProduct v1 v3 x1 h).bind fun (v7, h6) =>
  if v7 = 0 then (
    some ((0 : Int32), h6))
  else (
    (hp_gr h6 x0 5 2).bind fun v10 =>
    (hp_gr h6 v10 4 0).bind fun v12 =>
    (fX2_bitLength v12 h6).bind fun v15 =>
    if v15 ≤ (4096 : Int32) then (
      (hp_gr h6 x0 5 1).bind fun v17 =>
      (hp_gr h6 x0 5 2).bind fun v19 =>
      (fX4_take v17 v19 h6).bind fun h22 =>
      some ((1 : Int32), h22))
    else (
      some ((0 : Int32), h6)))
  else none
theorem inX5_multiplyResult_X4 : ∀ w ∈ wsX40, w ∈ wsX5_multiplyResult := by decide +kernel
theorem inX5_multiplyResult_X5 : ∀ w ∈ wsX50, w ∈ wsX5_multiplyResult := by decide +kernel
theorem lkX5_multiplyResult_f20 : Cond.fieldLink RX5 20 (TX5 2).1 (TX5 2).2.1 (TX5 2).2.2.1 ∈ wsX5_multiplyResult := by decide +kernel
theorem lkX5_multiplyResult_f16 : Cond.fieldLink RX5 16 (TX5 1).1 (TX5 1).2.1 (TX5 1).2.2.1 ∈ wsX5_multiplyResult := by decide +kernel
theorem lkX5_multiplyResult_f72 : Cond.fieldLink RX5 72 (TX4 0).1 (TX4 0).2.1 (TX4 0).2.2.1 ∈ wsX5_multiplyResult := by decide +kernel
theorem ndX5_multiplyResult : yX5_multiplyResult.cls ≠ "java/lang/invoke/MethodHandle" ∧ yX5_multiplyResult.cls ≠ "java/lang/invoke/VarHandle" ∧ (parseMethodDescriptor yX5_multiplyResult.desc).map (fun d => d.parameters.length) = some 1 := by decide +kernel
theorem oX5_multiplyResult {x0 : Nat} {x1 : Nat} {h h' : hp_H} {r : Int32} (hF : fX5_multiplyResult x0 x1 h = some (r, h')) : hp_o h x0 5 = true := by
  unfold fX5_multiplyResult at hF
  exact (hp_ift hF).1
set_option maxRecDepth 100000 in
set_option maxHeartbeats 4000000 in
theorem mX5_multiplyResult (l : Launch) (G : hp_G) {x0 : Nat} {x1 : Nat} {h h' : hp_H} {r : Int32} (hF : fX5_multiplyResult x0 x1 h = some (r, h')) : Met l yX5_multiplyResult wsX5_multiplyResult rmX5_multiplyResult (va_Pc [.ref x0, .ref x1] (hp_S G h)) (va_Qi (fun r' u => r' = r ∧ u = h') (hp_B G h) (hp_A h)) 0 0 (hp_A h) := by
  refine hp_met (cc := cX5_multiplyResult) (nL := 2) (ret := (some .boolean)) (by decide) rfl ?_
  intro p e s m below meth c X Y
  have hl := lv_entry ([.ref x0, .ref x1]) (n := 2) (Nat.le_of_ble_eq_true rfl)
  rw [lg_entry_eq]
  generalize (lg_sl ([.ref x0, .ref x1]) ++ List.replicate (2 - (lg_sl ([.ref x0, .ref x1])).length) Slot.unset).toArray = ls at hl ⊢
  have hl : lv_has ls 2 [(0, .ref x0), (1, .ref x1)] := hl
  unfold fX5_multiplyResult at hF
  obtain ⟨ho, hF⟩ := hp_ift hF
  refine lv_aload_n X.1 X.2.1 dX5_multiplyResult_0 rfl (lv_at hl 0 rfl) ?_
  obtain ⟨v1, e2, hF⟩ := hp_b hF
  refine hp_getr X Y (C := RX5) (T := TX5) (N := 6) (ci := 5) (k := 2) rfl inX5_multiplyResult_X5 (by decide) lkX5_multiplyResult_f20 e2 dX5_multiplyResult_1 ?_
  refine lv_aload_n X.1 X.2.1 dX5_multiplyResult_4 rfl (lv_at hl 0 rfl) ?_
  obtain ⟨v3, e4, hF⟩ := hp_b hF
  refine hp_getr X Y (C := RX5) (T := TX5) (N := 6) (ci := 5) (k := 1) rfl inX5_multiplyResult_X5 (by decide) lkX5_multiplyResult_f16 e4 dX5_multiplyResult_5 ?_
  refine lv_aload_n X.1 X.2.1 dX5_multiplyResult_8 rfl (lv_at hl 1 rfl) ?_
  obtain ⟨⟨v7, h6⟩, e5, hF⟩ := hp_b hF
  refine hp_ci Y (hp_runV X Y (ci := 4) (As := [.ref v3, .ref x1]) (n := 2) (T := TX4) (N := 2) (mX4_takeProduct l G e5) rfl (oX4_takeProduct e5) gX5_multiplyResult_X4_takeProduct rfl rfl rfl ndX4_takeProduct ⟨Nat.le_of_ble_eq_true rfl, Nat.le_of_ble_eq_true rfl⟩ rfl hl.1 rfl (Nat.le_of_ble_eq_true rfl) dX5_multiplyResult_9 ⟨Nat.zero_le _, Nat.zero_le _⟩) (fun H locs Y => ?_)
  refine lv_if_eq (tgt := 31) X.1 X.2.1 dX5_multiplyResult_12 (by decide) (fun c9 => ?_) (fun c9 => ?_)
  · have hF := hp_ifp (c9) hF
    refine lv_iconst (v := 0) X.1 X.2.1 dX5_multiplyResult_31 (by decide) ?_
    cases hF
    exact hp_ri X Y rfl rfl dX5_multiplyResult_32
  · have hF := hp_ifn (c9) hF
    refine lv_aload_n X.1 X.2.1 dX5_multiplyResult_15 rfl (lv_at hl 0 rfl) ?_
    obtain ⟨v10, e11, hF⟩ := hp_b hF
    refine hp_getr X Y (C := RX5) (T := TX5) (N := 6) (ci := 5) (k := 2) rfl inX5_multiplyResult_X5 (by decide) lkX5_multiplyResult_f20 e11 dX5_multiplyResult_16 ?_
    obtain ⟨v12, e13, hF⟩ := hp_b hF
    refine hp_getr X Y (C := RX4) (T := TX4) (N := 2) (ci := 4) (k := 0) rfl inX5_multiplyResult_X4 (by decide) lkX5_multiplyResult_f72 e13 dX5_multiplyResult_19 ?_
    obtain ⟨v15, e14, hF⟩ := hp_b hF
    refine hp_ci Y (hp_runV X Y (ci := 2) (As := []) (n := 0) (T := TX2) (N := 2) (mX2_bitLength l G e14) rfl (oX2_bitLength e14) gX5_multiplyResult_X2_bitLength rfl rfl rfl ndX2_bitLength ⟨Nat.le_of_ble_eq_true rfl, Nat.le_of_ble_eq_true rfl⟩ rfl hl.1 rfl (Nat.le_of_ble_eq_true rfl) dX5_multiplyResult_22 ⟨Nat.zero_le _, Nat.zero_le _⟩) (fun H locs Y => ?_)
    refine lv_sipush (v := 4096) X.1 X.2.1 dX5_multiplyResult_25 (by decide) ?_
    refine lv_icmp_le (tgt := 33) X.1 X.2.1 dX5_multiplyResult_28 (by decide) (fun c16 => ?_) (fun c16 => ?_)
    · have hF := hp_ifp (c16) hF
      refine lv_aload_n X.1 X.2.1 dX5_multiplyResult_33 rfl (lv_at hl 0 rfl) ?_
      obtain ⟨v17, e18, hF⟩ := hp_b hF
      refine hp_getr X Y (C := RX5) (T := TX5) (N := 6) (ci := 5) (k := 1) rfl inX5_multiplyResult_X5 (by decide) lkX5_multiplyResult_f16 e18 dX5_multiplyResult_34 ?_
      refine lv_aload_n X.1 X.2.1 dX5_multiplyResult_37 rfl (lv_at hl 0 rfl) ?_
      obtain ⟨v19, e20, hF⟩ := hp_b hF
      refine hp_getr X Y (C := RX5) (T := TX5) (N := 6) (ci := 5) (k := 2) rfl inX5_multiplyResult_X5 (by decide) lkX5_multiplyResult_f20 e20 dX5_multiplyResult_38 ?_
      obtain ⟨h22, e21, hF⟩ := hp_b hF
      refine hp_cv Y (hp_runV X Y (ci := 4) (As := [.ref v19]) (n := 1) (T := TX4) (N := 2) (mX4_take l G e21) rfl (oX4_take e21) gX5_multiplyResult_X4_take rfl rfl rfl ndX4_take ⟨Nat.le_of_ble_eq_true rfl, Nat.le_of_ble_eq_true rfl⟩ rfl hl.1 rfl (Nat.le_of_ble_eq_true rfl) dX5_multiplyResult_41 ⟨Nat.zero_le _, Nat.zero_le _⟩) (fun H locs Y => ?_)
      refine lv_iconst (v := 1) X.1 X.2.1 dX5_multiplyResult_44 (by decide) ?_
      cases hF
      exact hp_ri X Y rfl rfl dX5_multiplyResult_45
    · have hF := hp_ifn (c16) hF
      refine lv_iconst (v := 0) X.1 X.2.1 dX5_multiplyResult_31 (by decide) ?_
      cases hF
      exact hp_ri X Y rfl rfl dX5_multiplyResult_32

/-! WholeNumbers.takePower -/
def rmX5_takePower : Room := { frames := 5, cells := 0, slots := 0, locals := 111 }
def bX5_takePower_47 (k11 : Int32 → hp_H → Option (Int32 × hp_H)) (x0 : Nat) (x1 : Nat) (x2 : Int32) (x3 : Int32)  (h : hp_H) : Option (Int32 × hp_H) :=
  (some (x3 + (-1 : Int32))).bind fun v1 =>
  k11 v1 h
def bX5_takePower_11  (x0 : Nat) (x1 : Nat) (x2 : Int32) : Nat → Int32 → hp_H → Option (Int32 × hp_H)
  | 0, _, _ => none
  | n + 1, x3, h =>
  if x3 < 0 then (
    some ((1 : Int32), h))
  else (
    (hp_gr h x0 5 1).bind fun v2 =>
    (fX5_multiplyResult x0 v2 h).bind fun (v6, h5) =>
    if v6 = 0 then (
      some ((0 : Int32), h5))
    else (
      if ((hp_ishr x2 x3) &&& (1 : Int32)) = (1 : Int32) then (
        (fX5_multiplyResult x0 x1 h5).bind fun (v12, h11) =>
        if v12 = 0 then (
          some ((0 : Int32), h11))
        else (
          bX5_takePower_47 (bX5_takePower_11 x0 x1 x2 n) x0 x1 x2 x3 h11))
      else (
        bX5_takePower_47 (bX5_takePower_11 x0 x1 x2 n) x0 x1 x2 x3 h5)))
def fX5_takePower (x0 : Nat) (x1 : Nat) (x2 : Int32) (h : hp_H) : Option (Int32 × hp_H) :=
  if hp_o h x0 5 = true then
  (hp_gr h x0 5 1).bind fun v1 =>
  (fX4_takeLong v1 (1 : Int64) h).bind fun h4 =>
  bX5_takePower_11 x0 x1 x2 hp_n (12 : Int32) h4
  else none
theorem inX5_takePower_X5 : ∀ w ∈ wsX50, w ∈ wsX5_takePower := by decide +kernel
theorem lkX5_takePower_f16 : Cond.fieldLink RX5 16 (TX5 1).1 (TX5 1).2.1 (TX5 1).2.2.1 ∈ wsX5_takePower := by decide +kernel
theorem ndX5_takePower : yX5_takePower.cls ≠ "java/lang/invoke/MethodHandle" ∧ yX5_takePower.cls ≠ "java/lang/invoke/VarHandle" ∧ (parseMethodDescriptor yX5_takePower.desc).map (fun d => d.parameters.length) = some 2 := by decide +kernel
set_option maxRecDepth 100000 in
set_option maxHeartbeats 4000000 in
theorem wX5_takePower_47 {p : Program} {l : Launch} {e : Env} {s : State} {m : MethodId} {args : Array Value} {below : List Frame} {meth : Method} {c : Code} {G : hp_G} {h0 h' : hp_H} {r : Int32} (X : hp_X p s m args meth c cX5_takePower 4 RX5 wsX5_takePower (some .boolean) G) {k11 : Int32 → hp_H → Option (Int32 × hp_H)} {x0 : Nat} {x1 : Nat} {x2 : Int32} {x3 : Int32}  (hk11 : ∀ (y3 : Int32) (h : hp_H) (H : Heap) (locs : List Loc) (ls : Array Slot), hp_Y G h h0 s H locs → lv_has ls 4 [(0, .ref x0), (1, .ref x1), (2, .int x2), (3, .int y3)] → k11 y3 h = some (r, h') → W p l e rmX5_takePower s m args below meth c H locs 0 0 (MQ below (va_Qi (fun r' u => r' = r ∧ u = h') (hp_B G h0) (hp_A h0)) args s 0 0 (hp_A h0)) (F0 m 11 ls [])) {h : hp_H} {H : Heap} {locs : List Loc} {ls : Array Slot} (Y : hp_Y G h h0 s H locs) (hl : lv_has ls 4 [(0, .ref x0), (1, .ref x1), (2, .int x2), (3, .int x3)]) (hF : bX5_takePower_47 k11 x0 x1 x2 x3 h = some (r, h')) : W p l e rmX5_takePower s m args below meth c H locs 0 0 (MQ below (va_Qi (fun r' u => r' = r ∧ u = h') (hp_B G h0) (hp_A h0)) args s 0 0 (hp_A h0)) (F0 m 47 ls []) := by
  unfold bX5_takePower_47 at hF
  obtain ⟨v1, e2, hF⟩ := hp_b hF
  refine lv_iinc (v := v1) (lv' := [(3, .int v1), (0, .ref x0), (1, .ref x1), (2, .int x2)]) X.1 X.2.1 dX5_takePower_47 hl (k := 3) rfl (Option.some.inj e2) (by decide) rfl (fun ls hl => ?_)
  refine lv_goto (tgt := 11) X.1 X.2.1 dX5_takePower_50 (by decide) ?_
  exact hk11 _ _  _ _ _ Y (lv_sub hl [1, 2, 3, 0] rfl) hF
set_option maxRecDepth 100000 in
set_option maxHeartbeats 4000000 in
theorem wX5_takePower_11 {p : Program} {l : Launch} {e : Env} {s : State} {m : MethodId} {args : Array Value} {below : List Frame} {meth : Method} {c : Code} {G : hp_G} {h0 h' : hp_H} {r : Int32} (X : hp_X p s m args meth c cX5_takePower 4 RX5 wsX5_takePower (some .boolean) G)  {x0 : Nat} {x1 : Nat} {x2 : Int32}   : ∀ (n : Nat) {x3 : Int32} {h : hp_H} {H : Heap} {locs : List Loc} {ls : Array Slot} (Y : hp_Y G h h0 s H locs) (hl : lv_has ls 4 [(0, .ref x0), (1, .ref x1), (2, .int x2), (3, .int x3)]) (hF : bX5_takePower_11 x0 x1 x2 n x3 h = some (r, h')), W p l e rmX5_takePower s m args below meth c H locs 0 0 (MQ below (va_Qi (fun r' u => r' = r ∧ u = h') (hp_B G h0) (hp_A h0)) args s 0 0 (hp_A h0)) (F0 m 11 ls []) := by
  intro n
  induction n with
  | zero =>
    intro x3 h H locs ls Y hl hF
    exact absurd (show none = some _ from hF) (by simp)
  | succ n ih =>
    intro x3 h H locs ls Y hl hF
    rw [bX5_takePower_11] at hF
    refine lv_iload_n X.1 X.2.1 dX5_takePower_11 rfl (lv_at hl 3 rfl) ?_
    refine lv_if_lt (tgt := 53) X.1 X.2.1 dX5_takePower_12 (by decide) (fun c1 => ?_) (fun c1 => ?_)
    · have hF := hp_ifp (c1) hF
      refine lv_iconst (v := 1) X.1 X.2.1 dX5_takePower_53 (by decide) ?_
      cases hF
      exact hp_ri X Y rfl rfl dX5_takePower_54
    · have hF := hp_ifn (c1) hF
      refine lv_aload_n X.1 X.2.1 dX5_takePower_15 rfl (lv_at hl 0 rfl) ?_
      refine lv_aload_n X.1 X.2.1 dX5_takePower_16 rfl (lv_at hl 0 rfl) ?_
      obtain ⟨v2, e3, hF⟩ := hp_b hF
      refine hp_getr X Y (C := RX5) (T := TX5) (N := 6) (ci := 5) (k := 1) rfl inX5_takePower_X5 (by decide) lkX5_takePower_f16 e3 dX5_takePower_17 ?_
      obtain ⟨⟨v6, h5⟩, e4, hF⟩ := hp_b hF
      refine hp_ci Y (hp_runV X Y (ci := 5) (As := [.ref v2]) (n := 1) (T := TX5) (N := 6) (mX5_multiplyResult l G e4) rfl (oX5_multiplyResult e4) gX5_takePower_X5_multiplyResult rfl rfl rfl ndX5_multiplyResult ⟨Nat.le_of_ble_eq_true rfl, Nat.le_of_ble_eq_true rfl⟩ rfl hl.1 rfl (Nat.le_of_ble_eq_true rfl) dX5_takePower_20 ⟨Nat.zero_le _, Nat.zero_le _⟩) (fun H locs Y => ?_)
      refine lv_if_ne (tgt := 28) X.1 X.2.1 dX5_takePower_23 (by decide) (fun c8 => ?_) (fun c8 => ?_)
      · have hF := hp_ifn (c8) hF
        refine lv_iload_n X.1 X.2.1 dX5_takePower_28 rfl (lv_at hl 2 rfl) ?_
        refine lv_iload_n X.1 X.2.1 dX5_takePower_29 rfl (lv_at hl 3 rfl) ?_
        refine lv_ishr X.1 X.2.1 dX5_takePower_30 ?_
        refine lv_iconst (v := 1) X.1 X.2.1 dX5_takePower_31 (by decide) ?_
        refine lv_iand X.1 X.2.1 dX5_takePower_32 ?_
        refine lv_iconst (v := 1) X.1 X.2.1 dX5_takePower_33 (by decide) ?_
        refine lv_icmp_ne (tgt := 47) X.1 X.2.1 dX5_takePower_34 (by decide) (fun c9 => ?_) (fun c9 => ?_)
        · have hF := hp_ifn (c9) hF
          exact wX5_takePower_47 X (fun _ _ _ _ _ Y hl hF => ih Y hl hF) Y (lv_sub hl [0, 1, 2, 3] rfl) hF
        · have hF := hp_ifp (c9) hF
          refine lv_aload_n X.1 X.2.1 dX5_takePower_37 rfl (lv_at hl 0 rfl) ?_
          refine lv_aload_n X.1 X.2.1 dX5_takePower_38 rfl (lv_at hl 1 rfl) ?_
          obtain ⟨⟨v12, h11⟩, e10, hF⟩ := hp_b hF
          refine hp_ci Y (hp_runV X Y (ci := 5) (As := [.ref x1]) (n := 1) (T := TX5) (N := 6) (mX5_multiplyResult l G e10) rfl (oX5_multiplyResult e10) gX5_takePower_X5_multiplyResult rfl rfl rfl ndX5_multiplyResult ⟨Nat.le_of_ble_eq_true rfl, Nat.le_of_ble_eq_true rfl⟩ rfl hl.1 rfl (Nat.le_of_ble_eq_true rfl) dX5_takePower_39 ⟨Nat.zero_le _, Nat.zero_le _⟩) (fun H locs Y => ?_)
          refine lv_if_ne (tgt := 47) X.1 X.2.1 dX5_takePower_42 (by decide) (fun c14 => ?_) (fun c14 => ?_)
          · have hF := hp_ifn (c14) hF
            exact wX5_takePower_47 X (fun _ _ _ _ _ Y hl hF => ih Y hl hF) Y (lv_sub hl [0, 1, 2, 3] rfl) hF
          · have hF := hp_ifp (c14) hF
            refine lv_iconst (v := 0) X.1 X.2.1 dX5_takePower_45 (by decide) ?_
            cases hF
            exact hp_ri X Y rfl rfl dX5_takePower_46
      · have hF := hp_ifp (c8) hF
        refine lv_iconst (v := 0) X.1 X.2.1 dX5_takePower_26 (by decide) ?_
        cases hF
        exact hp_ri X Y rfl rfl dX5_takePower_27
theorem oX5_takePower {x0 : Nat} {x1 : Nat} {x2 : Int32} {h h' : hp_H} {r : Int32} (hF : fX5_takePower x0 x1 x2 h = some (r, h')) : hp_o h x0 5 = true := by
  unfold fX5_takePower at hF
  exact (hp_ift hF).1
set_option maxRecDepth 100000 in
set_option maxHeartbeats 4000000 in
theorem mX5_takePower (l : Launch) (G : hp_G) {x0 : Nat} {x1 : Nat} {x2 : Int32} {h h' : hp_H} {r : Int32} (hF : fX5_takePower x0 x1 x2 h = some (r, h')) : Met l yX5_takePower wsX5_takePower rmX5_takePower (va_Pc [.ref x0, .ref x1, .int x2] (hp_S G h)) (va_Qi (fun r' u => r' = r ∧ u = h') (hp_B G h) (hp_A h)) 0 0 (hp_A h) := by
  refine hp_met (cc := cX5_takePower) (nL := 4) (ret := (some .boolean)) (by decide) rfl ?_
  intro p e s m below meth c X Y
  have hl := lv_entry ([.ref x0, .ref x1, .int x2]) (n := 4) (Nat.le_of_ble_eq_true rfl)
  rw [lg_entry_eq]
  generalize (lg_sl ([.ref x0, .ref x1, .int x2]) ++ List.replicate (4 - (lg_sl ([.ref x0, .ref x1, .int x2])).length) Slot.unset).toArray = ls at hl ⊢
  have hl : lv_has ls 4 [(0, .ref x0), (1, .ref x1), (2, .int x2)] := hl
  unfold fX5_takePower at hF
  obtain ⟨ho, hF⟩ := hp_ift hF
  refine lv_aload_n X.1 X.2.1 dX5_takePower_0 rfl (lv_at hl 0 rfl) ?_
  obtain ⟨v1, e2, hF⟩ := hp_b hF
  refine hp_getr X Y (C := RX5) (T := TX5) (N := 6) (ci := 5) (k := 1) rfl inX5_takePower_X5 (by decide) lkX5_takePower_f16 e2 dX5_takePower_1 ?_
  refine lv_lconst (v := 1) X.1 X.2.1 dX5_takePower_4 (by decide) ?_
  obtain ⟨h4, e3, hF⟩ := hp_b hF
  refine hp_cv Y (hp_runV X Y (ci := 4) (As := [.long (1 : Int64)]) (n := 1) (T := TX4) (N := 2) (mX4_takeLong l G e3) rfl (oX4_takeLong e3) gX5_takePower_X4_takeLong rfl rfl rfl ndX4_takeLong ⟨Nat.le_of_ble_eq_true rfl, Nat.le_of_ble_eq_true rfl⟩ rfl hl.1 rfl (Nat.le_of_ble_eq_true rfl) dX5_takePower_5 ⟨Nat.zero_le _, Nat.zero_le _⟩) (fun H locs Y => ?_)
  refine lv_bipush (v := 12) X.1 X.2.1 dX5_takePower_8 (by decide) ?_
  refine lv_istore_n (lv' := [(3, .int (12 : Int32)), (0, .ref x0), (1, .ref x1), (2, .int x2)]) X.1 X.2.1 dX5_takePower_10 rfl hl (by decide) rfl (fun ls hl => ?_)
  exact wX5_takePower_11 X  hp_n Y (lv_sub hl [1, 2, 3, 0] rfl) hF

/-! WholeNumbers.power -/
def rmX5_power : Room := { frames := 6, cells := 0, slots := 0, locals := 134 }
def fX5_power (x0 : Nat) (x1 : Int32) (x2 : Int32) (x3 : Int32) (h : hp_H) : Option (Int32 × hp_H) :=
  if hp_o h x0 5 = true then
  (fX5_isRegister x1).bind fun v2 =>
  if v2 = 0 then (
    some ((-1 : Int32), h))
  else (
    (fX5_isRegister x2).bind fun v5 =>
    if v5 = 0 then (
      some ((-1 : Int32), h))
    else (
      if x3 < 0 then (
        some ((-1 : Int32), h))
      else (
        if x3 ≤ (4096 : Int32) then (
          (hp_gr h x0 5 0).bind fun v9 =>
          (hp_ar h v9 x2).bind fun v11 =>
          (fX5_takePower x0 v11 x3 h).bind fun (v15, h14) =>
          if v15 = 0 then (
            some ((-1 : Int32), h14))
          else (
            (fX5_keepResult x0 x1 h14).bind fun (v20, h19) =>
            some (v20, h19)))
        else (
          some ((-1 : Int32), h)))))
  else none
theorem inX5_power_X5 : ∀ w ∈ wsX50, w ∈ wsX5_power := by decide +kernel
theorem lkX5_power_f11 : Cond.fieldLink RX5 11 (TX5 0).1 (TX5 0).2.1 (TX5 0).2.2.1 ∈ wsX5_power := by decide +kernel
theorem ndX5_power : yX5_power.cls ≠ "java/lang/invoke/MethodHandle" ∧ yX5_power.cls ≠ "java/lang/invoke/VarHandle" ∧ (parseMethodDescriptor yX5_power.desc).map (fun d => d.parameters.length) = some 3 := by decide +kernel
theorem oX5_power {x0 : Nat} {x1 : Int32} {x2 : Int32} {x3 : Int32} {h h' : hp_H} {r : Int32} (hF : fX5_power x0 x1 x2 x3 h = some (r, h')) : hp_o h x0 5 = true := by
  unfold fX5_power at hF
  exact (hp_ift hF).1
set_option maxRecDepth 100000 in
set_option maxHeartbeats 4000000 in
theorem mX5_power (l : Launch) (G : hp_G) {x0 : Nat} {x1 : Int32} {x2 : Int32} {x3 : Int32} {h h' : hp_H} {r : Int32} (hF : fX5_power x0 x1 x2 x3 h = some (r, h')) : Met l yX5_power wsX5_power rmX5_power (va_Pc [.ref x0, .int x1, .int x2, .int x3] (hp_S G h)) (va_Qi (fun r' u => r' = r ∧ u = h') (hp_B G h) (hp_A h)) 0 0 (hp_A h) := by
  refine hp_met (cc := cX5_power) (nL := 4) (ret := (some .int)) (by decide) rfl ?_
  intro p e s m below meth c X Y
  have hl := lv_entry ([.ref x0, .int x1, .int x2, .int x3]) (n := 4) (Nat.le_of_ble_eq_true rfl)
  rw [lg_entry_eq]
  generalize (lg_sl ([.ref x0, .int x1, .int x2, .int x3]) ++ List.replicate (4 - (lg_sl ([.ref x0, .int x1, .int x2, .int x3])).length) Slot.unset).toArray = ls at hl ⊢
  have hl : lv_has ls 4 [(0, .ref x0), (1, .int x1), (2, .int x2), (3, .int x3)] := hl
  unfold fX5_power at hF
  obtain ⟨ho, hF⟩ := hp_ift hF
  refine lv_iload_n X.1 X.2.1 dX5_power_0 rfl (lv_at hl 1 rfl) ?_
  obtain ⟨v2, e1, hF⟩ := hp_b hF
  refine hp_ci Y (hp_runS X Y (As := [.int x1]) (n := 1) (mX5_isRegister l G e1) gX5_power_X5_isRegister rfl rfl rfl ndX5_isRegister ⟨Nat.le_of_ble_eq_true rfl, Nat.le_of_ble_eq_true rfl⟩ rfl hl.1 rfl (Nat.le_of_ble_eq_true rfl) dX5_power_1 ⟨Nat.zero_le _, Nat.zero_le _⟩) (fun H locs Y => ?_)
  refine lv_if_eq (tgt := 25) X.1 X.2.1 dX5_power_4 (by decide) (fun c3 => ?_) (fun c3 => ?_)
  · have hF := hp_ifp (c3) hF
    refine lv_iconst (v := -1) X.1 X.2.1 dX5_power_25 (by decide) ?_
    cases hF
    exact hp_ri X Y rfl rfl dX5_power_26
  · have hF := hp_ifn (c3) hF
    refine lv_iload_n X.1 X.2.1 dX5_power_7 rfl (lv_at hl 2 rfl) ?_
    obtain ⟨v5, e4, hF⟩ := hp_b hF
    refine hp_ci Y (hp_runS X Y (As := [.int x2]) (n := 1) (mX5_isRegister l G e4) gX5_power_X5_isRegister rfl rfl rfl ndX5_isRegister ⟨Nat.le_of_ble_eq_true rfl, Nat.le_of_ble_eq_true rfl⟩ rfl hl.1 rfl (Nat.le_of_ble_eq_true rfl) dX5_power_8 ⟨Nat.zero_le _, Nat.zero_le _⟩) (fun H locs Y => ?_)
    refine lv_if_eq (tgt := 25) X.1 X.2.1 dX5_power_11 (by decide) (fun c6 => ?_) (fun c6 => ?_)
    · have hF := hp_ifp (c6) hF
      refine lv_iconst (v := -1) X.1 X.2.1 dX5_power_25 (by decide) ?_
      cases hF
      exact hp_ri X Y rfl rfl dX5_power_26
    · have hF := hp_ifn (c6) hF
      refine lv_iload_n X.1 X.2.1 dX5_power_14 rfl (lv_at hl 3 rfl) ?_
      refine lv_if_lt (tgt := 25) X.1 X.2.1 dX5_power_15 (by decide) (fun c7 => ?_) (fun c7 => ?_)
      · have hF := hp_ifp (c7) hF
        refine lv_iconst (v := -1) X.1 X.2.1 dX5_power_25 (by decide) ?_
        cases hF
        exact hp_ri X Y rfl rfl dX5_power_26
      · have hF := hp_ifn (c7) hF
        refine lv_iload_n X.1 X.2.1 dX5_power_18 rfl (lv_at hl 3 rfl) ?_
        refine lv_sipush (v := 4096) X.1 X.2.1 dX5_power_19 (by decide) ?_
        refine lv_icmp_le (tgt := 27) X.1 X.2.1 dX5_power_22 (by decide) (fun c8 => ?_) (fun c8 => ?_)
        · have hF := hp_ifp (c8) hF
          refine lv_aload_n X.1 X.2.1 dX5_power_27 rfl (lv_at hl 0 rfl) ?_
          refine lv_aload_n X.1 X.2.1 dX5_power_28 rfl (lv_at hl 0 rfl) ?_
          obtain ⟨v9, e10, hF⟩ := hp_b hF
          refine hp_getr X Y (C := RX5) (T := TX5) (N := 6) (ci := 5) (k := 0) rfl inX5_power_X5 (by decide) lkX5_power_f11 e10 dX5_power_29 ?_
          refine lv_iload_n X.1 X.2.1 dX5_power_32 rfl (lv_at hl 2 rfl) ?_
          obtain ⟨v11, e12, hF⟩ := hp_b hF
          refine hp_aald X Y e12 dX5_power_33 ?_
          refine lv_iload_n X.1 X.2.1 dX5_power_34 rfl (lv_at hl 3 rfl) ?_
          obtain ⟨⟨v15, h14⟩, e13, hF⟩ := hp_b hF
          refine hp_ci Y (hp_runV X Y (ci := 5) (As := [.ref v11, .int x3]) (n := 2) (T := TX5) (N := 6) (mX5_takePower l G e13) rfl (oX5_takePower e13) gX5_power_X5_takePower rfl rfl rfl ndX5_takePower ⟨Nat.le_of_ble_eq_true rfl, Nat.le_of_ble_eq_true rfl⟩ rfl hl.1 rfl (Nat.le_of_ble_eq_true rfl) dX5_power_35 ⟨Nat.zero_le _, Nat.zero_le _⟩) (fun H locs Y => ?_)
          refine lv_if_eq (tgt := 49) X.1 X.2.1 dX5_power_38 (by decide) (fun c17 => ?_) (fun c17 => ?_)
          · have hF := hp_ifp (c17) hF
            refine lv_iconst (v := -1) X.1 X.2.1 dX5_power_49 (by decide) ?_
            cases hF
            exact hp_ri X Y rfl rfl dX5_power_50
          · have hF := hp_ifn (c17) hF
            refine lv_aload_n X.1 X.2.1 dX5_power_41 rfl (lv_at hl 0 rfl) ?_
            refine lv_iload_n X.1 X.2.1 dX5_power_42 rfl (lv_at hl 1 rfl) ?_
            obtain ⟨⟨v20, h19⟩, e18, hF⟩ := hp_b hF
            refine hp_ci Y (hp_runV X Y (ci := 5) (As := [.int x1]) (n := 1) (T := TX5) (N := 6) (mX5_keepResult l G e18) rfl (oX5_keepResult e18) gX5_power_X5_keepResult rfl rfl rfl ndX5_keepResult ⟨Nat.le_of_ble_eq_true rfl, Nat.le_of_ble_eq_true rfl⟩ rfl hl.1 rfl (Nat.le_of_ble_eq_true rfl) dX5_power_43 ⟨Nat.zero_le _, Nat.zero_le _⟩) (fun H locs Y => ?_)
            refine lv_goto (tgt := 50) X.1 X.2.1 dX5_power_46 (by decide) ?_
            cases hF
            exact hp_ri X Y rfl rfl dX5_power_50
        · have hF := hp_ifn (c8) hF
          refine lv_iconst (v := -1) X.1 X.2.1 dX5_power_25 (by decide) ?_
          cases hF
          exact hp_ri X Y rfl rfl dX5_power_26

/-! WholeNumbers.compare -/
def rmX5_compare : Room := { frames := 2, cells := 0, slots := 0, locals := 43 }
def fX5_compare (x0 : Nat) (x1 : Int32) (x2 : Int32) (h : hp_H) : Option Int32 :=
  if hp_o h x0 5 = true then
  (fX5_isRegister x1).bind fun v2 =>
  if v2 = 0 then (
    some (2 : Int32))
  else (
    (fX5_isRegister x2).bind fun v5 =>
    if v5 = 0 then (
      some (2 : Int32))
    else (
      (hp_gr h x0 5 0).bind fun v7 =>
      (hp_ar h v7 x1).bind fun v9 =>
      (hp_gr h x0 5 0).bind fun v11 =>
      (hp_ar h v11 x2).bind fun v13 =>
      (fX4_order v9 v13 h).bind fun v16 =>
      some v16))
  else none
theorem inX5_compare_X5 : ∀ w ∈ wsX50, w ∈ wsX5_compare := by decide +kernel
theorem lkX5_compare_f11 : Cond.fieldLink RX5 11 (TX5 0).1 (TX5 0).2.1 (TX5 0).2.2.1 ∈ wsX5_compare := by decide +kernel
theorem ndX5_compare : yX5_compare.cls ≠ "java/lang/invoke/MethodHandle" ∧ yX5_compare.cls ≠ "java/lang/invoke/VarHandle" ∧ (parseMethodDescriptor yX5_compare.desc).map (fun d => d.parameters.length) = some 2 := by decide +kernel
theorem oX5_compare {x0 : Nat} {x1 : Int32} {x2 : Int32} {h : hp_H} {r : Int32} (hF : fX5_compare x0 x1 x2 h = some r) : hp_o h x0 5 = true := by
  unfold fX5_compare at hF
  exact (hp_ift hF).1
set_option maxRecDepth 100000 in
set_option maxHeartbeats 4000000 in
theorem mX5_compare (l : Launch) (G : hp_G) {x0 : Nat} {x1 : Int32} {x2 : Int32} {h : hp_H} {r : Int32} (hF : fX5_compare x0 x1 x2 h = some r) : Met l yX5_compare wsX5_compare rmX5_compare (va_Pc [.ref x0, .int x1, .int x2] (hp_S G h)) (va_Qi (fun r' u => r' = r ∧ u = h) (hp_B G h) (hp_A h)) 0 0 (hp_A h) := by
  refine hp_met (cc := cX5_compare) (nL := 3) (ret := (some .int)) (by decide) rfl ?_
  intro p e s m below meth c X Y
  have hl := lv_entry ([.ref x0, .int x1, .int x2]) (n := 3) (Nat.le_of_ble_eq_true rfl)
  rw [lg_entry_eq]
  generalize (lg_sl ([.ref x0, .int x1, .int x2]) ++ List.replicate (3 - (lg_sl ([.ref x0, .int x1, .int x2])).length) Slot.unset).toArray = ls at hl ⊢
  have hl : lv_has ls 3 [(0, .ref x0), (1, .int x1), (2, .int x2)] := hl
  unfold fX5_compare at hF
  obtain ⟨ho, hF⟩ := hp_ift hF
  refine lv_iload_n X.1 X.2.1 dX5_compare_0 rfl (lv_at hl 1 rfl) ?_
  obtain ⟨v2, e1, hF⟩ := hp_b hF
  refine hp_ci Y (hp_runS X Y (As := [.int x1]) (n := 1) (mX5_isRegister l G e1) gX5_compare_X5_isRegister rfl rfl rfl ndX5_isRegister ⟨Nat.le_of_ble_eq_true rfl, Nat.le_of_ble_eq_true rfl⟩ rfl hl.1 rfl (Nat.le_of_ble_eq_true rfl) dX5_compare_1 ⟨Nat.zero_le _, Nat.zero_le _⟩) (fun H locs Y => ?_)
  refine lv_if_eq (tgt := 14) X.1 X.2.1 dX5_compare_4 (by decide) (fun c3 => ?_) (fun c3 => ?_)
  · have hF := hp_ifp (c3) hF
    refine lv_iconst (v := 2) X.1 X.2.1 dX5_compare_14 (by decide) ?_
    cases hF
    exact hp_ri X Y rfl rfl dX5_compare_15
  · have hF := hp_ifn (c3) hF
    refine lv_iload_n X.1 X.2.1 dX5_compare_7 rfl (lv_at hl 2 rfl) ?_
    obtain ⟨v5, e4, hF⟩ := hp_b hF
    refine hp_ci Y (hp_runS X Y (As := [.int x2]) (n := 1) (mX5_isRegister l G e4) gX5_compare_X5_isRegister rfl rfl rfl ndX5_isRegister ⟨Nat.le_of_ble_eq_true rfl, Nat.le_of_ble_eq_true rfl⟩ rfl hl.1 rfl (Nat.le_of_ble_eq_true rfl) dX5_compare_8 ⟨Nat.zero_le _, Nat.zero_le _⟩) (fun H locs Y => ?_)
    refine lv_if_ne (tgt := 16) X.1 X.2.1 dX5_compare_11 (by decide) (fun c6 => ?_) (fun c6 => ?_)
    · have hF := hp_ifn (c6) hF
      refine lv_aload_n X.1 X.2.1 dX5_compare_16 rfl (lv_at hl 0 rfl) ?_
      obtain ⟨v7, e8, hF⟩ := hp_b hF
      refine hp_getr X Y (C := RX5) (T := TX5) (N := 6) (ci := 5) (k := 0) rfl inX5_compare_X5 (by decide) lkX5_compare_f11 e8 dX5_compare_17 ?_
      refine lv_iload_n X.1 X.2.1 dX5_compare_20 rfl (lv_at hl 1 rfl) ?_
      obtain ⟨v9, e10, hF⟩ := hp_b hF
      refine hp_aald X Y e10 dX5_compare_21 ?_
      refine lv_aload_n X.1 X.2.1 dX5_compare_22 rfl (lv_at hl 0 rfl) ?_
      obtain ⟨v11, e12, hF⟩ := hp_b hF
      refine hp_getr X Y (C := RX5) (T := TX5) (N := 6) (ci := 5) (k := 0) rfl inX5_compare_X5 (by decide) lkX5_compare_f11 e12 dX5_compare_23 ?_
      refine lv_iload_n X.1 X.2.1 dX5_compare_26 rfl (lv_at hl 2 rfl) ?_
      obtain ⟨v13, e14, hF⟩ := hp_b hF
      refine hp_aald X Y e14 dX5_compare_27 ?_
      obtain ⟨v16, e15, hF⟩ := hp_b hF
      refine hp_ci Y (hp_runV X Y (ci := 4) (As := [.ref v13]) (n := 1) (T := TX4) (N := 2) (mX4_order l G e15) rfl (oX4_order e15) gX5_compare_X4_order rfl rfl rfl ndX4_order ⟨Nat.le_of_ble_eq_true rfl, Nat.le_of_ble_eq_true rfl⟩ rfl hl.1 rfl (Nat.le_of_ble_eq_true rfl) dX5_compare_28 ⟨Nat.zero_le _, Nat.zero_le _⟩) (fun H locs Y => ?_)
      cases hF
      exact hp_ri X Y rfl rfl dX5_compare_31
    · have hF := hp_ifp (c6) hF
      refine lv_iconst (v := 2) X.1 X.2.1 dX5_compare_14 (by decide) ?_
      cases hF
      exact hp_ri X Y rfl rfl dX5_compare_15

/-! WholeNumbers.sign -/
def rmX5_sign : Room := { frames := 2, cells := 0, slots := 0, locals := 40 }
def fX5_sign (x0 : Nat) (x1 : Int32) (h : hp_H) : Option Int32 :=
  if hp_o h x0 5 = true then
  (fX5_isRegister x1).bind fun v2 =>
  if v2 = 0 then (
    some (2 : Int32))
  else (
    (hp_gr h x0 5 0).bind fun v4 =>
    (hp_ar h v4 x1).bind fun v6 =>
    (fX4_direction v6 h).bind fun v9 =>
    some v9)
  else none
theorem inX5_sign_X5 : ∀ w ∈ wsX50, w ∈ wsX5_sign := by decide +kernel
theorem lkX5_sign_f11 : Cond.fieldLink RX5 11 (TX5 0).1 (TX5 0).2.1 (TX5 0).2.2.1 ∈ wsX5_sign := by decide +kernel
theorem ndX5_sign : yX5_sign.cls ≠ "java/lang/invoke/MethodHandle" ∧ yX5_sign.cls ≠ "java/lang/invoke/VarHandle" ∧ (parseMethodDescriptor yX5_sign.desc).map (fun d => d.parameters.length) = some 1 := by decide +kernel
theorem oX5_sign {x0 : Nat} {x1 : Int32} {h : hp_H} {r : Int32} (hF : fX5_sign x0 x1 h = some r) : hp_o h x0 5 = true := by
  unfold fX5_sign at hF
  exact (hp_ift hF).1
set_option maxRecDepth 100000 in
set_option maxHeartbeats 4000000 in
theorem mX5_sign (l : Launch) (G : hp_G) {x0 : Nat} {x1 : Int32} {h : hp_H} {r : Int32} (hF : fX5_sign x0 x1 h = some r) : Met l yX5_sign wsX5_sign rmX5_sign (va_Pc [.ref x0, .int x1] (hp_S G h)) (va_Qi (fun r' u => r' = r ∧ u = h) (hp_B G h) (hp_A h)) 0 0 (hp_A h) := by
  refine hp_met (cc := cX5_sign) (nL := 2) (ret := (some .int)) (by decide) rfl ?_
  intro p e s m below meth c X Y
  have hl := lv_entry ([.ref x0, .int x1]) (n := 2) (Nat.le_of_ble_eq_true rfl)
  rw [lg_entry_eq]
  generalize (lg_sl ([.ref x0, .int x1]) ++ List.replicate (2 - (lg_sl ([.ref x0, .int x1])).length) Slot.unset).toArray = ls at hl ⊢
  have hl : lv_has ls 2 [(0, .ref x0), (1, .int x1)] := hl
  unfold fX5_sign at hF
  obtain ⟨ho, hF⟩ := hp_ift hF
  refine lv_iload_n X.1 X.2.1 dX5_sign_0 rfl (lv_at hl 1 rfl) ?_
  obtain ⟨v2, e1, hF⟩ := hp_b hF
  refine hp_ci Y (hp_runS X Y (As := [.int x1]) (n := 1) (mX5_isRegister l G e1) gX5_sign_X5_isRegister rfl rfl rfl ndX5_isRegister ⟨Nat.le_of_ble_eq_true rfl, Nat.le_of_ble_eq_true rfl⟩ rfl hl.1 rfl (Nat.le_of_ble_eq_true rfl) dX5_sign_1 ⟨Nat.zero_le _, Nat.zero_le _⟩) (fun H locs Y => ?_)
  refine lv_if_eq (tgt := 19) X.1 X.2.1 dX5_sign_4 (by decide) (fun c3 => ?_) (fun c3 => ?_)
  · have hF := hp_ifp (c3) hF
    refine lv_iconst (v := 2) X.1 X.2.1 dX5_sign_19 (by decide) ?_
    cases hF
    exact hp_ri X Y rfl rfl dX5_sign_20
  · have hF := hp_ifn (c3) hF
    refine lv_aload_n X.1 X.2.1 dX5_sign_7 rfl (lv_at hl 0 rfl) ?_
    obtain ⟨v4, e5, hF⟩ := hp_b hF
    refine hp_getr X Y (C := RX5) (T := TX5) (N := 6) (ci := 5) (k := 0) rfl inX5_sign_X5 (by decide) lkX5_sign_f11 e5 dX5_sign_8 ?_
    refine lv_iload_n X.1 X.2.1 dX5_sign_11 rfl (lv_at hl 1 rfl) ?_
    obtain ⟨v6, e7, hF⟩ := hp_b hF
    refine hp_aald X Y e7 dX5_sign_12 ?_
    obtain ⟨v9, e8, hF⟩ := hp_b hF
    refine hp_ci Y (hp_runV X Y (ci := 4) (As := []) (n := 0) (T := TX4) (N := 2) (mX4_direction l G e8) rfl (oX4_direction e8) gX5_sign_X4_direction rfl rfl rfl ndX4_direction ⟨Nat.le_of_ble_eq_true rfl, Nat.le_of_ble_eq_true rfl⟩ rfl hl.1 rfl (Nat.le_of_ble_eq_true rfl) dX5_sign_13 ⟨Nat.zero_le _, Nat.zero_le _⟩) (fun H locs Y => ?_)
    refine lv_goto (tgt := 20) X.1 X.2.1 dX5_sign_16 (by decide) ?_
    cases hF
    exact hp_ri X Y rfl rfl dX5_sign_20

/-! WholeNumbers.bits -/
def rmX5_bits : Room := { frames := 3, cells := 0, slots := 0, locals := 61 }
def fX5_bits (x0 : Nat) (x1 : Int32) (h : hp_H) : Option Int32 :=
  if hp_o h x0 5 = true then
  (fX5_isRegister x1).bind fun v2 =>
  if v2 = 0 then (
    some (-1 : Int32))
  else (
    (hp_gr h x0 5 0).bind fun v4 =>
    (hp_ar h v4 x1).bind fun v6 =>
    (hp_gr h v6 4 0).bind fun v8 =>
    (fX2_bitLength v8 h).bind fun v11 =>
    some v11)
  else none
theorem inX5_bits_X4 : ∀ w ∈ wsX40, w ∈ wsX5_bits := by decide +kernel
theorem inX5_bits_X5 : ∀ w ∈ wsX50, w ∈ wsX5_bits := by decide +kernel
theorem lkX5_bits_f11 : Cond.fieldLink RX5 11 (TX5 0).1 (TX5 0).2.1 (TX5 0).2.2.1 ∈ wsX5_bits := by decide +kernel
theorem lkX5_bits_f72 : Cond.fieldLink RX5 72 (TX4 0).1 (TX4 0).2.1 (TX4 0).2.2.1 ∈ wsX5_bits := by decide +kernel
theorem ndX5_bits : yX5_bits.cls ≠ "java/lang/invoke/MethodHandle" ∧ yX5_bits.cls ≠ "java/lang/invoke/VarHandle" ∧ (parseMethodDescriptor yX5_bits.desc).map (fun d => d.parameters.length) = some 1 := by decide +kernel
theorem oX5_bits {x0 : Nat} {x1 : Int32} {h : hp_H} {r : Int32} (hF : fX5_bits x0 x1 h = some r) : hp_o h x0 5 = true := by
  unfold fX5_bits at hF
  exact (hp_ift hF).1
set_option maxRecDepth 100000 in
set_option maxHeartbeats 4000000 in
theorem mX5_bits (l : Launch) (G : hp_G) {x0 : Nat} {x1 : Int32} {h : hp_H} {r : Int32} (hF : fX5_bits x0 x1 h = some r) : Met l yX5_bits wsX5_bits rmX5_bits (va_Pc [.ref x0, .int x1] (hp_S G h)) (va_Qi (fun r' u => r' = r ∧ u = h) (hp_B G h) (hp_A h)) 0 0 (hp_A h) := by
  refine hp_met (cc := cX5_bits) (nL := 2) (ret := (some .int)) (by decide) rfl ?_
  intro p e s m below meth c X Y
  have hl := lv_entry ([.ref x0, .int x1]) (n := 2) (Nat.le_of_ble_eq_true rfl)
  rw [lg_entry_eq]
  generalize (lg_sl ([.ref x0, .int x1]) ++ List.replicate (2 - (lg_sl ([.ref x0, .int x1])).length) Slot.unset).toArray = ls at hl ⊢
  have hl : lv_has ls 2 [(0, .ref x0), (1, .int x1)] := hl
  unfold fX5_bits at hF
  obtain ⟨ho, hF⟩ := hp_ift hF
  refine lv_iload_n X.1 X.2.1 dX5_bits_0 rfl (lv_at hl 1 rfl) ?_
  obtain ⟨v2, e1, hF⟩ := hp_b hF
  refine hp_ci Y (hp_runS X Y (As := [.int x1]) (n := 1) (mX5_isRegister l G e1) gX5_bits_X5_isRegister rfl rfl rfl ndX5_isRegister ⟨Nat.le_of_ble_eq_true rfl, Nat.le_of_ble_eq_true rfl⟩ rfl hl.1 rfl (Nat.le_of_ble_eq_true rfl) dX5_bits_1 ⟨Nat.zero_le _, Nat.zero_le _⟩) (fun H locs Y => ?_)
  refine lv_if_eq (tgt := 22) X.1 X.2.1 dX5_bits_4 (by decide) (fun c3 => ?_) (fun c3 => ?_)
  · have hF := hp_ifp (c3) hF
    refine lv_iconst (v := -1) X.1 X.2.1 dX5_bits_22 (by decide) ?_
    cases hF
    exact hp_ri X Y rfl rfl dX5_bits_23
  · have hF := hp_ifn (c3) hF
    refine lv_aload_n X.1 X.2.1 dX5_bits_7 rfl (lv_at hl 0 rfl) ?_
    obtain ⟨v4, e5, hF⟩ := hp_b hF
    refine hp_getr X Y (C := RX5) (T := TX5) (N := 6) (ci := 5) (k := 0) rfl inX5_bits_X5 (by decide) lkX5_bits_f11 e5 dX5_bits_8 ?_
    refine lv_iload_n X.1 X.2.1 dX5_bits_11 rfl (lv_at hl 1 rfl) ?_
    obtain ⟨v6, e7, hF⟩ := hp_b hF
    refine hp_aald X Y e7 dX5_bits_12 ?_
    obtain ⟨v8, e9, hF⟩ := hp_b hF
    refine hp_getr X Y (C := RX4) (T := TX4) (N := 2) (ci := 4) (k := 0) rfl inX5_bits_X4 (by decide) lkX5_bits_f72 e9 dX5_bits_13 ?_
    obtain ⟨v11, e10, hF⟩ := hp_b hF
    refine hp_ci Y (hp_runV X Y (ci := 2) (As := []) (n := 0) (T := TX2) (N := 2) (mX2_bitLength l G e10) rfl (oX2_bitLength e10) gX5_bits_X2_bitLength rfl rfl rfl ndX2_bitLength ⟨Nat.le_of_ble_eq_true rfl, Nat.le_of_ble_eq_true rfl⟩ rfl hl.1 rfl (Nat.le_of_ble_eq_true rfl) dX5_bits_16 ⟨Nat.zero_le _, Nat.zero_le _⟩) (fun H locs Y => ?_)
    refine lv_goto (tgt := 23) X.1 X.2.1 dX5_bits_19 (by decide) ?_
    cases hF
    exact hp_ri X Y rfl rfl dX5_bits_23
