/-! WholeNumbers.part -/
def rmX5_part : Room := { frames := 2, cells := 0, slots := 0, locals := 44 }
def fX5_part (x0 : Nat) (x1 : Int32) (x2 : Int32) (h : hp_H) : Option Int32 :=
  if hp_o h x0 5 = true then
  (fX5_isRegister x1).bind fun v2 =>
  if v2 = 0 then (
    some (-1 : Int32))
  else (
    if x2 < 0 then (
      some (-1 : Int32))
    else (
      (hp_gr h x0 5 0).bind fun v5 =>
      (hp_ar h v5 x1).bind fun v7 =>
      (hp_gr h v7 4 0).bind fun v9 =>
      (fX2_limbFrom v9 x2 h).bind fun v12 =>
      some v12))
  else none
theorem inX5_part_X4 : ∀ w ∈ wsX40, w ∈ wsX5_part := by decide +kernel
theorem inX5_part_X5 : ∀ w ∈ wsX50, w ∈ wsX5_part := by decide +kernel
theorem lkX5_part_f11 : Cond.fieldLink RX5 11 (TX5 0).1 (TX5 0).2.1 (TX5 0).2.2.1 ∈ wsX5_part := by decide +kernel
theorem lkX5_part_f72 : Cond.fieldLink RX5 72 (TX4 0).1 (TX4 0).2.1 (TX4 0).2.2.1 ∈ wsX5_part := by decide +kernel
theorem ndX5_part : yX5_part.cls ≠ "java/lang/invoke/MethodHandle" ∧ yX5_part.cls ≠ "java/lang/invoke/VarHandle" ∧ (parseMethodDescriptor yX5_part.desc).map (fun d => d.parameters.length) = some 2 := by decide +kernel
theorem oX5_part {x0 : Nat} {x1 : Int32} {x2 : Int32} {h : hp_H} {r : Int32} (hF : fX5_part x0 x1 x2 h = some r) : hp_o h x0 5 = true := by
  unfold fX5_part at hF
  exact (hp_ift hF).1
set_option maxRecDepth 100000 in
set_option maxHeartbeats 4000000 in
theorem mX5_part (l : Launch) (G : hp_G) {x0 : Nat} {x1 : Int32} {x2 : Int32} {h : hp_H} {r : Int32} (hF : fX5_part x0 x1 x2 h = some r) : Met l yX5_part wsX5_part rmX5_part (va_Pc [.ref x0, .int x1, .int x2] (hp_S G h)) (va_Qi (fun r' u => r' = r ∧ u = h) (hp_B G h) (hp_A h)) 0 0 (hp_A h) := by
  refine hp_met (cc := cX5_part) (nL := 3) (ret := (some .int)) (by decide) rfl ?_
  intro p e s m below meth c X Y
  have hl := lv_entry ([.ref x0, .int x1, .int x2]) (n := 3) (Nat.le_of_ble_eq_true rfl)
  rw [lg_entry_eq]
  generalize (lg_sl ([.ref x0, .int x1, .int x2]) ++ List.replicate (3 - (lg_sl ([.ref x0, .int x1, .int x2])).length) Slot.unset).toArray = ls at hl ⊢
  have hl : lv_has ls 3 [(0, .ref x0), (1, .int x1), (2, .int x2)] := hl
  unfold fX5_part at hF
  obtain ⟨ho, hF⟩ := hp_ift hF
  refine lv_iload_n X.1 X.2.1 dX5_part_0 rfl (lv_at hl 1 rfl) ?_
  obtain ⟨v2, e1, hF⟩ := hp_b hF
  refine hp_ci Y (hp_runS X Y (As := [.int x1]) (n := 1) (mX5_isRegister l G e1) gX5_part_X5_isRegister rfl rfl rfl ndX5_isRegister ⟨Nat.le_of_ble_eq_true rfl, Nat.le_of_ble_eq_true rfl⟩ rfl hl.1 rfl (Nat.le_of_ble_eq_true rfl) dX5_part_1 ⟨Nat.zero_le _, Nat.zero_le _⟩) (fun H locs Y => ?_)
  refine lv_if_eq (tgt := 27) X.1 X.2.1 dX5_part_4 (by decide) (fun c3 => ?_) (fun c3 => ?_)
  · have hF := hp_ifp (c3) hF
    refine lv_iconst (v := -1) X.1 X.2.1 dX5_part_27 (by decide) ?_
    cases hF
    exact hp_ri X Y rfl rfl dX5_part_28
  · have hF := hp_ifn (c3) hF
    refine lv_iload_n X.1 X.2.1 dX5_part_7 rfl (lv_at hl 2 rfl) ?_
    refine lv_if_lt (tgt := 27) X.1 X.2.1 dX5_part_8 (by decide) (fun c4 => ?_) (fun c4 => ?_)
    · have hF := hp_ifp (c4) hF
      refine lv_iconst (v := -1) X.1 X.2.1 dX5_part_27 (by decide) ?_
      cases hF
      exact hp_ri X Y rfl rfl dX5_part_28
    · have hF := hp_ifn (c4) hF
      refine lv_aload_n X.1 X.2.1 dX5_part_11 rfl (lv_at hl 0 rfl) ?_
      obtain ⟨v5, e6, hF⟩ := hp_b hF
      refine hp_getr X Y (C := RX5) (T := TX5) (N := 6) (ci := 5) (k := 0) rfl inX5_part_X5 (by decide) lkX5_part_f11 e6 dX5_part_12 ?_
      refine lv_iload_n X.1 X.2.1 dX5_part_15 rfl (lv_at hl 1 rfl) ?_
      obtain ⟨v7, e8, hF⟩ := hp_b hF
      refine hp_aald X Y e8 dX5_part_16 ?_
      obtain ⟨v9, e10, hF⟩ := hp_b hF
      refine hp_getr X Y (C := RX4) (T := TX4) (N := 2) (ci := 4) (k := 0) rfl inX5_part_X4 (by decide) lkX5_part_f72 e10 dX5_part_17 ?_
      refine lv_iload_n X.1 X.2.1 dX5_part_20 rfl (lv_at hl 2 rfl) ?_
      obtain ⟨v12, e11, hF⟩ := hp_b hF
      refine hp_ci Y (hp_runV X Y (ci := 2) (As := [.int x2]) (n := 1) (T := TX2) (N := 2) (mX2_limbFrom l G e11) rfl (oX2_limbFrom e11) gX5_part_X2_limbFrom rfl rfl rfl ndX2_limbFrom ⟨Nat.le_of_ble_eq_true rfl, Nat.le_of_ble_eq_true rfl⟩ rfl hl.1 rfl (Nat.le_of_ble_eq_true rfl) dX5_part_21 ⟨Nat.zero_le _, Nat.zero_le _⟩) (fun H locs Y => ?_)
      refine lv_goto (tgt := 28) X.1 X.2.1 dX5_part_24 (by decide) ?_
      cases hF
      exact hp_ri X Y rfl rfl dX5_part_28

/-! WholeNumbers.hasBelow -/
def rmX5_hasBelow : Room := { frames := 2, cells := 0, slots := 0, locals := 44 }
def fX5_hasBelow (x0 : Nat) (x1 : Int32) (x2 : Int32) (h : hp_H) : Option Int32 :=
  if hp_o h x0 5 = true then
  (fX5_isRegister x1).bind fun v2 =>
  if v2 = 0 then (
    some (0 : Int32))
  else (
    if x2 < (1 : Int32) then (
      some (0 : Int32))
    else (
      (hp_gr h x0 5 0).bind fun v5 =>
      (hp_ar h v5 x1).bind fun v7 =>
      (hp_gr h v7 4 0).bind fun v9 =>
      (fX2_anyBitBelow v9 x2 h).bind fun v12 =>
      if v12 = 0 then (
        some (0 : Int32))
      else (
        some (1 : Int32))))
  else none
theorem inX5_hasBelow_X4 : ∀ w ∈ wsX40, w ∈ wsX5_hasBelow := by decide +kernel
theorem inX5_hasBelow_X5 : ∀ w ∈ wsX50, w ∈ wsX5_hasBelow := by decide +kernel
theorem lkX5_hasBelow_f11 : Cond.fieldLink RX5 11 (TX5 0).1 (TX5 0).2.1 (TX5 0).2.2.1 ∈ wsX5_hasBelow := by decide +kernel
theorem lkX5_hasBelow_f72 : Cond.fieldLink RX5 72 (TX4 0).1 (TX4 0).2.1 (TX4 0).2.2.1 ∈ wsX5_hasBelow := by decide +kernel
theorem ndX5_hasBelow : yX5_hasBelow.cls ≠ "java/lang/invoke/MethodHandle" ∧ yX5_hasBelow.cls ≠ "java/lang/invoke/VarHandle" ∧ (parseMethodDescriptor yX5_hasBelow.desc).map (fun d => d.parameters.length) = some 2 := by decide +kernel
theorem oX5_hasBelow {x0 : Nat} {x1 : Int32} {x2 : Int32} {h : hp_H} {r : Int32} (hF : fX5_hasBelow x0 x1 x2 h = some r) : hp_o h x0 5 = true := by
  unfold fX5_hasBelow at hF
  exact (hp_ift hF).1
set_option maxRecDepth 100000 in
set_option maxHeartbeats 4000000 in
theorem mX5_hasBelow (l : Launch) (G : hp_G) {x0 : Nat} {x1 : Int32} {x2 : Int32} {h : hp_H} {r : Int32} (hF : fX5_hasBelow x0 x1 x2 h = some r) : Met l yX5_hasBelow wsX5_hasBelow rmX5_hasBelow (va_Pc [.ref x0, .int x1, .int x2] (hp_S G h)) (va_Qi (fun r' u => r' = r ∧ u = h) (hp_B G h) (hp_A h)) 0 0 (hp_A h) := by
  refine hp_met (cc := cX5_hasBelow) (nL := 3) (ret := (some .boolean)) (by decide) rfl ?_
  intro p e s m below meth c X Y
  have hl := lv_entry ([.ref x0, .int x1, .int x2]) (n := 3) (Nat.le_of_ble_eq_true rfl)
  rw [lg_entry_eq]
  generalize (lg_sl ([.ref x0, .int x1, .int x2]) ++ List.replicate (3 - (lg_sl ([.ref x0, .int x1, .int x2])).length) Slot.unset).toArray = ls at hl ⊢
  have hl : lv_has ls 3 [(0, .ref x0), (1, .int x1), (2, .int x2)] := hl
  unfold fX5_hasBelow at hF
  obtain ⟨ho, hF⟩ := hp_ift hF
  refine lv_iload_n X.1 X.2.1 dX5_hasBelow_0 rfl (lv_at hl 1 rfl) ?_
  obtain ⟨v2, e1, hF⟩ := hp_b hF
  refine hp_ci Y (hp_runS X Y (As := [.int x1]) (n := 1) (mX5_isRegister l G e1) gX5_hasBelow_X5_isRegister rfl rfl rfl ndX5_isRegister ⟨Nat.le_of_ble_eq_true rfl, Nat.le_of_ble_eq_true rfl⟩ rfl hl.1 rfl (Nat.le_of_ble_eq_true rfl) dX5_hasBelow_1 ⟨Nat.zero_le _, Nat.zero_le _⟩) (fun H locs Y => ?_)
  refine lv_if_eq (tgt := 32) X.1 X.2.1 dX5_hasBelow_4 (by decide) (fun c3 => ?_) (fun c3 => ?_)
  · have hF := hp_ifp (c3) hF
    refine lv_iconst (v := 0) X.1 X.2.1 dX5_hasBelow_32 (by decide) ?_
    cases hF
    exact hp_ri X Y rfl rfl dX5_hasBelow_33
  · have hF := hp_ifn (c3) hF
    refine lv_iload_n X.1 X.2.1 dX5_hasBelow_7 rfl (lv_at hl 2 rfl) ?_
    refine lv_iconst (v := 1) X.1 X.2.1 dX5_hasBelow_8 (by decide) ?_
    refine lv_icmp_lt (tgt := 32) X.1 X.2.1 dX5_hasBelow_9 (by decide) (fun c4 => ?_) (fun c4 => ?_)
    · have hF := hp_ifp (c4) hF
      refine lv_iconst (v := 0) X.1 X.2.1 dX5_hasBelow_32 (by decide) ?_
      cases hF
      exact hp_ri X Y rfl rfl dX5_hasBelow_33
    · have hF := hp_ifn (c4) hF
      refine lv_aload_n X.1 X.2.1 dX5_hasBelow_12 rfl (lv_at hl 0 rfl) ?_
      obtain ⟨v5, e6, hF⟩ := hp_b hF
      refine hp_getr X Y (C := RX5) (T := TX5) (N := 6) (ci := 5) (k := 0) rfl inX5_hasBelow_X5 (by decide) lkX5_hasBelow_f11 e6 dX5_hasBelow_13 ?_
      refine lv_iload_n X.1 X.2.1 dX5_hasBelow_16 rfl (lv_at hl 1 rfl) ?_
      obtain ⟨v7, e8, hF⟩ := hp_b hF
      refine hp_aald X Y e8 dX5_hasBelow_17 ?_
      obtain ⟨v9, e10, hF⟩ := hp_b hF
      refine hp_getr X Y (C := RX4) (T := TX4) (N := 2) (ci := 4) (k := 0) rfl inX5_hasBelow_X4 (by decide) lkX5_hasBelow_f72 e10 dX5_hasBelow_18 ?_
      refine lv_iload_n X.1 X.2.1 dX5_hasBelow_21 rfl (lv_at hl 2 rfl) ?_
      obtain ⟨v12, e11, hF⟩ := hp_b hF
      refine hp_ci Y (hp_runV X Y (ci := 2) (As := [.int x2]) (n := 1) (T := TX2) (N := 2) (mX2_anyBitBelow l G e11) rfl (oX2_anyBitBelow e11) gX5_hasBelow_X2_anyBitBelow rfl rfl rfl ndX2_anyBitBelow ⟨Nat.le_of_ble_eq_true rfl, Nat.le_of_ble_eq_true rfl⟩ rfl hl.1 rfl (Nat.le_of_ble_eq_true rfl) dX5_hasBelow_22 ⟨Nat.zero_le _, Nat.zero_le _⟩) (fun H locs Y => ?_)
      refine lv_if_eq (tgt := 32) X.1 X.2.1 dX5_hasBelow_25 (by decide) (fun c13 => ?_) (fun c13 => ?_)
      · have hF := hp_ifp (c13) hF
        refine lv_iconst (v := 0) X.1 X.2.1 dX5_hasBelow_32 (by decide) ?_
        cases hF
        exact hp_ri X Y rfl rfl dX5_hasBelow_33
      · have hF := hp_ifn (c13) hF
        refine lv_iconst (v := 1) X.1 X.2.1 dX5_hasBelow_28 (by decide) ?_
        refine lv_goto (tgt := 33) X.1 X.2.1 dX5_hasBelow_29 (by decide) ?_
        cases hF
        exact hp_ri X Y rfl rfl dX5_hasBelow_33

/-! WholeNumbers.fits -/
def rmX5_fits : Room := { frames := 4, cells := 0, slots := 0, locals := 83 }
def fX5_fits (x0 : Nat) (x1 : Int32) (h : hp_H) : Option Int32 :=
  if hp_o h x0 5 = true then
  (fX5_isRegister x1).bind fun v2 =>
  if v2 = 0 then (
    some (0 : Int32))
  else (
    (hp_gr h x0 5 0).bind fun v4 =>
    (hp_ar h v4 x1).bind fun v6 =>
    (fX4_isLong v6 h).bind fun v9 =>
    if v9 = 0 then (
      some (0 : Int32))
    else (
      some (1 : Int32)))
  else none
theorem inX5_fits_X5 : ∀ w ∈ wsX50, w ∈ wsX5_fits := by decide +kernel
theorem lkX5_fits_f11 : Cond.fieldLink RX5 11 (TX5 0).1 (TX5 0).2.1 (TX5 0).2.2.1 ∈ wsX5_fits := by decide +kernel
theorem ndX5_fits : yX5_fits.cls ≠ "java/lang/invoke/MethodHandle" ∧ yX5_fits.cls ≠ "java/lang/invoke/VarHandle" ∧ (parseMethodDescriptor yX5_fits.desc).map (fun d => d.parameters.length) = some 1 := by decide +kernel
theorem oX5_fits {x0 : Nat} {x1 : Int32} {h : hp_H} {r : Int32} (hF : fX5_fits x0 x1 h = some r) : hp_o h x0 5 = true := by
  unfold fX5_fits at hF
  exact (hp_ift hF).1
set_option maxRecDepth 100000 in
set_option maxHeartbeats 4000000 in
theorem mX5_fits (l : Launch) (G : hp_G) {x0 : Nat} {x1 : Int32} {h : hp_H} {r : Int32} (hF : fX5_fits x0 x1 h = some r) : Met l yX5_fits wsX5_fits rmX5_fits (va_Pc [.ref x0, .int x1] (hp_S G h)) (va_Qi (fun r' u => r' = r ∧ u = h) (hp_B G h) (hp_A h)) 0 0 (hp_A h) := by
  refine hp_met (cc := cX5_fits) (nL := 2) (ret := (some .boolean)) (by decide) rfl ?_
  intro p e s m below meth c X Y
  have hl := lv_entry ([.ref x0, .int x1]) (n := 2) (Nat.le_of_ble_eq_true rfl)
  rw [lg_entry_eq]
  generalize (lg_sl ([.ref x0, .int x1]) ++ List.replicate (2 - (lg_sl ([.ref x0, .int x1])).length) Slot.unset).toArray = ls at hl ⊢
  have hl : lv_has ls 2 [(0, .ref x0), (1, .int x1)] := hl
  unfold fX5_fits at hF
  obtain ⟨ho, hF⟩ := hp_ift hF
  refine lv_iload_n X.1 X.2.1 dX5_fits_0 rfl (lv_at hl 1 rfl) ?_
  obtain ⟨v2, e1, hF⟩ := hp_b hF
  refine hp_ci Y (hp_runS X Y (As := [.int x1]) (n := 1) (mX5_isRegister l G e1) gX5_fits_X5_isRegister rfl rfl rfl ndX5_isRegister ⟨Nat.le_of_ble_eq_true rfl, Nat.le_of_ble_eq_true rfl⟩ rfl hl.1 rfl (Nat.le_of_ble_eq_true rfl) dX5_fits_1 ⟨Nat.zero_le _, Nat.zero_le _⟩) (fun H locs Y => ?_)
  refine lv_if_eq (tgt := 23) X.1 X.2.1 dX5_fits_4 (by decide) (fun c3 => ?_) (fun c3 => ?_)
  · have hF := hp_ifp (c3) hF
    refine lv_iconst (v := 0) X.1 X.2.1 dX5_fits_23 (by decide) ?_
    cases hF
    exact hp_ri X Y rfl rfl dX5_fits_24
  · have hF := hp_ifn (c3) hF
    refine lv_aload_n X.1 X.2.1 dX5_fits_7 rfl (lv_at hl 0 rfl) ?_
    obtain ⟨v4, e5, hF⟩ := hp_b hF
    refine hp_getr X Y (C := RX5) (T := TX5) (N := 6) (ci := 5) (k := 0) rfl inX5_fits_X5 (by decide) lkX5_fits_f11 e5 dX5_fits_8 ?_
    refine lv_iload_n X.1 X.2.1 dX5_fits_11 rfl (lv_at hl 1 rfl) ?_
    obtain ⟨v6, e7, hF⟩ := hp_b hF
    refine hp_aald X Y e7 dX5_fits_12 ?_
    obtain ⟨v9, e8, hF⟩ := hp_b hF
    refine hp_ci Y (hp_runV X Y (ci := 4) (As := []) (n := 0) (T := TX4) (N := 2) (mX4_isLong l G e8) rfl (oX4_isLong e8) gX5_fits_X4_isLong rfl rfl rfl ndX4_isLong ⟨Nat.le_of_ble_eq_true rfl, Nat.le_of_ble_eq_true rfl⟩ rfl hl.1 rfl (Nat.le_of_ble_eq_true rfl) dX5_fits_13 ⟨Nat.zero_le _, Nat.zero_le _⟩) (fun H locs Y => ?_)
    refine lv_if_eq (tgt := 23) X.1 X.2.1 dX5_fits_16 (by decide) (fun c10 => ?_) (fun c10 => ?_)
    · have hF := hp_ifp (c10) hF
      refine lv_iconst (v := 0) X.1 X.2.1 dX5_fits_23 (by decide) ?_
      cases hF
      exact hp_ri X Y rfl rfl dX5_fits_24
    · have hF := hp_ifn (c10) hF
      refine lv_iconst (v := 1) X.1 X.2.1 dX5_fits_19 (by decide) ?_
      refine lv_goto (tgt := 24) X.1 X.2.1 dX5_fits_20 (by decide) ?_
      cases hF
      exact hp_ri X Y rfl rfl dX5_fits_24

/-! WholeNumbers.low -/
def rmX5_low : Room := { frames := 5, cells := 0, slots := 0, locals := 104 }
def fX5_low (x0 : Nat) (x1 : Int32) (h : hp_H) : Option Int64 :=
  if hp_o h x0 5 = true then
  (fX5_fits x0 x1 h).bind fun v2 =>
  if v2 = 0 then (
    some (0 : Int64))
  else (
    (hp_gr h x0 5 0).bind fun v4 =>
    (hp_ar h v4 x1).bind fun v6 =>
    (fX4_asLong v6 h).bind fun v9 =>
    some v9)
  else none
theorem inX5_low_X5 : ∀ w ∈ wsX50, w ∈ wsX5_low := by decide +kernel
theorem lkX5_low_f11 : Cond.fieldLink RX5 11 (TX5 0).1 (TX5 0).2.1 (TX5 0).2.2.1 ∈ wsX5_low := by decide +kernel
theorem ndX5_low : yX5_low.cls ≠ "java/lang/invoke/MethodHandle" ∧ yX5_low.cls ≠ "java/lang/invoke/VarHandle" ∧ (parseMethodDescriptor yX5_low.desc).map (fun d => d.parameters.length) = some 1 := by decide +kernel
theorem oX5_low {x0 : Nat} {x1 : Int32} {h : hp_H} {r : Int64} (hF : fX5_low x0 x1 h = some r) : hp_o h x0 5 = true := by
  unfold fX5_low at hF
  exact (hp_ift hF).1
set_option maxRecDepth 100000 in
set_option maxHeartbeats 4000000 in
theorem mX5_low (l : Launch) (G : hp_G) {x0 : Nat} {x1 : Int32} {h : hp_H} {r : Int64} (hF : fX5_low x0 x1 h = some r) : Met l yX5_low wsX5_low rmX5_low (va_Pc [.ref x0, .int x1] (hp_S G h)) (va_Ql (fun r' u => r' = r ∧ u = h) (hp_B G h) (hp_A h)) 0 0 (hp_A h) := by
  refine hp_met (cc := cX5_low) (nL := 2) (ret := (some .long)) (by decide) rfl ?_
  intro p e s m below meth c X Y
  have hl := lv_entry ([.ref x0, .int x1]) (n := 2) (Nat.le_of_ble_eq_true rfl)
  rw [lg_entry_eq]
  generalize (lg_sl ([.ref x0, .int x1]) ++ List.replicate (2 - (lg_sl ([.ref x0, .int x1])).length) Slot.unset).toArray = ls at hl ⊢
  have hl : lv_has ls 2 [(0, .ref x0), (1, .int x1)] := hl
  unfold fX5_low at hF
  obtain ⟨ho, hF⟩ := hp_ift hF
  refine lv_aload_n X.1 X.2.1 dX5_low_0 rfl (lv_at hl 0 rfl) ?_
  refine lv_iload_n X.1 X.2.1 dX5_low_1 rfl (lv_at hl 1 rfl) ?_
  obtain ⟨v2, e1, hF⟩ := hp_b hF
  refine hp_ci Y (hp_runV X Y (ci := 5) (As := [.int x1]) (n := 1) (T := TX5) (N := 6) (mX5_fits l G e1) rfl (oX5_fits e1) gX5_low_X5_fits rfl rfl rfl ndX5_fits ⟨Nat.le_of_ble_eq_true rfl, Nat.le_of_ble_eq_true rfl⟩ rfl hl.1 rfl (Nat.le_of_ble_eq_true rfl) dX5_low_2 ⟨Nat.zero_le _, Nat.zero_le _⟩) (fun H locs Y => ?_)
  refine lv_if_eq (tgt := 20) X.1 X.2.1 dX5_low_5 (by decide) (fun c3 => ?_) (fun c3 => ?_)
  · have hF := hp_ifp (c3) hF
    refine lv_lconst (v := 0) X.1 X.2.1 dX5_low_20 (by decide) ?_
    cases hF
    exact hp_rj X Y rfl dX5_low_21
  · have hF := hp_ifn (c3) hF
    refine lv_aload_n X.1 X.2.1 dX5_low_8 rfl (lv_at hl 0 rfl) ?_
    obtain ⟨v4, e5, hF⟩ := hp_b hF
    refine hp_getr X Y (C := RX5) (T := TX5) (N := 6) (ci := 5) (k := 0) rfl inX5_low_X5 (by decide) lkX5_low_f11 e5 dX5_low_9 ?_
    refine lv_iload_n X.1 X.2.1 dX5_low_12 rfl (lv_at hl 1 rfl) ?_
    obtain ⟨v6, e7, hF⟩ := hp_b hF
    refine hp_aald X Y e7 dX5_low_13 ?_
    obtain ⟨v9, e8, hF⟩ := hp_b hF
    refine hp_cj Y (hp_runV X Y (ci := 4) (As := []) (n := 0) (T := TX4) (N := 2) (mX4_asLong l G e8) rfl (oX4_asLong e8) gX5_low_X4_asLong rfl rfl rfl ndX4_asLong ⟨Nat.le_of_ble_eq_true rfl, Nat.le_of_ble_eq_true rfl⟩ rfl hl.1 rfl (Nat.le_of_ble_eq_true rfl) dX5_low_14 ⟨Nat.zero_le _, Nat.zero_le _⟩) (fun H locs Y => ?_)
    refine lv_goto (tgt := 21) X.1 X.2.1 dX5_low_17 (by decide) ?_
    cases hF
    exact hp_rj X Y rfl dX5_low_21

/-! WholeNumbers.write -/
def rmX5_write : Room := { frames := 5, cells := 0, slots := 0, locals := 118 }
def fX5_write (x0 : Nat) (x1 : Int32) (x2 : Int32) (h : hp_H) : Option (Int32 × hp_H) :=
  if hp_o h x0 5 = true then
  (fX5_isRegister x1).bind fun v2 =>
  if v2 = 0 then (
    some ((-1 : Int32), h))
  else (
    (fX5_isBase x2).bind fun v5 =>
    if v5 = 0 then (
      some ((-1 : Int32), h))
    else (
      (hp_gr h x0 5 1).bind fun v7 =>
      (hp_gr h x0 5 0).bind fun v9 =>
      (hp_ar h v9 x1).bind fun v11 =>
      (fX4_take v7 v11 h).bind fun h14 =>
      (hp_gr h14 x0 5 5).bind fun v15 =>
      (hp_gr h14 x0 5 1).bind fun v17 =>
      (fX3_spell v15 v17 x2 h14).bind fun h20 =>
      (hp_gr h20 x0 5 5).bind fun v21 =>
      (hp_gi h20 v21 3 1).bind fun v23 =>
      some (v23, h20)))
  else none
theorem inX5_write_X3 : ∀ w ∈ wsX30, w ∈ wsX5_write := by decide +kernel
theorem inX5_write_X5 : ∀ w ∈ wsX50, w ∈ wsX5_write := by decide +kernel
theorem lkX5_write_f16 : Cond.fieldLink RX5 16 (TX5 1).1 (TX5 1).2.1 (TX5 1).2.2.1 ∈ wsX5_write := by decide +kernel
theorem lkX5_write_f11 : Cond.fieldLink RX5 11 (TX5 0).1 (TX5 0).2.1 (TX5 0).2.2.1 ∈ wsX5_write := by decide +kernel
theorem lkX5_write_f40 : Cond.fieldLink RX5 40 (TX5 5).1 (TX5 5).2.1 (TX5 5).2.2.1 ∈ wsX5_write := by decide +kernel
theorem lkX5_write_f164 : Cond.fieldLink RX5 164 (TX3 1).1 (TX3 1).2.1 (TX3 1).2.2.1 ∈ wsX5_write := by decide +kernel
theorem ndX5_write : yX5_write.cls ≠ "java/lang/invoke/MethodHandle" ∧ yX5_write.cls ≠ "java/lang/invoke/VarHandle" ∧ (parseMethodDescriptor yX5_write.desc).map (fun d => d.parameters.length) = some 2 := by decide +kernel
theorem oX5_write {x0 : Nat} {x1 : Int32} {x2 : Int32} {h h' : hp_H} {r : Int32} (hF : fX5_write x0 x1 x2 h = some (r, h')) : hp_o h x0 5 = true := by
  unfold fX5_write at hF
  exact (hp_ift hF).1
set_option maxRecDepth 100000 in
set_option maxHeartbeats 4000000 in
theorem mX5_write (l : Launch) (G : hp_G) {x0 : Nat} {x1 : Int32} {x2 : Int32} {h h' : hp_H} {r : Int32} (hF : fX5_write x0 x1 x2 h = some (r, h')) : Met l yX5_write wsX5_write rmX5_write (va_Pc [.ref x0, .int x1, .int x2] (hp_S G h)) (va_Qi (fun r' u => r' = r ∧ u = h') (hp_B G h) (hp_A h)) 0 0 (hp_A h) := by
  refine hp_met (cc := cX5_write) (nL := 3) (ret := (some .int)) (by decide) rfl ?_
  intro p e s m below meth c X Y
  have hl := lv_entry ([.ref x0, .int x1, .int x2]) (n := 3) (Nat.le_of_ble_eq_true rfl)
  rw [lg_entry_eq]
  generalize (lg_sl ([.ref x0, .int x1, .int x2]) ++ List.replicate (3 - (lg_sl ([.ref x0, .int x1, .int x2])).length) Slot.unset).toArray = ls at hl ⊢
  have hl : lv_has ls 3 [(0, .ref x0), (1, .int x1), (2, .int x2)] := hl
  unfold fX5_write at hF
  obtain ⟨ho, hF⟩ := hp_ift hF
  refine lv_iload_n X.1 X.2.1 dX5_write_0 rfl (lv_at hl 1 rfl) ?_
  obtain ⟨v2, e1, hF⟩ := hp_b hF
  refine hp_ci Y (hp_runS X Y (As := [.int x1]) (n := 1) (mX5_isRegister l G e1) gX5_write_X5_isRegister rfl rfl rfl ndX5_isRegister ⟨Nat.le_of_ble_eq_true rfl, Nat.le_of_ble_eq_true rfl⟩ rfl hl.1 rfl (Nat.le_of_ble_eq_true rfl) dX5_write_1 ⟨Nat.zero_le _, Nat.zero_le _⟩) (fun H locs Y => ?_)
  refine lv_if_eq (tgt := 14) X.1 X.2.1 dX5_write_4 (by decide) (fun c3 => ?_) (fun c3 => ?_)
  · have hF := hp_ifp (c3) hF
    refine lv_iconst (v := -1) X.1 X.2.1 dX5_write_14 (by decide) ?_
    cases hF
    exact hp_ri X Y rfl rfl dX5_write_15
  · have hF := hp_ifn (c3) hF
    refine lv_iload_n X.1 X.2.1 dX5_write_7 rfl (lv_at hl 2 rfl) ?_
    obtain ⟨v5, e4, hF⟩ := hp_b hF
    refine hp_ci Y (hp_runS X Y (As := [.int x2]) (n := 1) (mX5_isBase l G e4) gX5_write_X5_isBase rfl rfl rfl ndX5_isBase ⟨Nat.le_of_ble_eq_true rfl, Nat.le_of_ble_eq_true rfl⟩ rfl hl.1 rfl (Nat.le_of_ble_eq_true rfl) dX5_write_8 ⟨Nat.zero_le _, Nat.zero_le _⟩) (fun H locs Y => ?_)
    refine lv_if_ne (tgt := 16) X.1 X.2.1 dX5_write_11 (by decide) (fun c6 => ?_) (fun c6 => ?_)
    · have hF := hp_ifn (c6) hF
      refine lv_aload_n X.1 X.2.1 dX5_write_16 rfl (lv_at hl 0 rfl) ?_
      obtain ⟨v7, e8, hF⟩ := hp_b hF
      refine hp_getr X Y (C := RX5) (T := TX5) (N := 6) (ci := 5) (k := 1) rfl inX5_write_X5 (by decide) lkX5_write_f16 e8 dX5_write_17 ?_
      refine lv_aload_n X.1 X.2.1 dX5_write_20 rfl (lv_at hl 0 rfl) ?_
      obtain ⟨v9, e10, hF⟩ := hp_b hF
      refine hp_getr X Y (C := RX5) (T := TX5) (N := 6) (ci := 5) (k := 0) rfl inX5_write_X5 (by decide) lkX5_write_f11 e10 dX5_write_21 ?_
      refine lv_iload_n X.1 X.2.1 dX5_write_24 rfl (lv_at hl 1 rfl) ?_
      obtain ⟨v11, e12, hF⟩ := hp_b hF
      refine hp_aald X Y e12 dX5_write_25 ?_
      obtain ⟨h14, e13, hF⟩ := hp_b hF
      refine hp_cv Y (hp_runV X Y (ci := 4) (As := [.ref v11]) (n := 1) (T := TX4) (N := 2) (mX4_take l G e13) rfl (oX4_take e13) gX5_write_X4_take rfl rfl rfl ndX4_take ⟨Nat.le_of_ble_eq_true rfl, Nat.le_of_ble_eq_true rfl⟩ rfl hl.1 rfl (Nat.le_of_ble_eq_true rfl) dX5_write_26 ⟨Nat.zero_le _, Nat.zero_le _⟩) (fun H locs Y => ?_)
      refine lv_aload_n X.1 X.2.1 dX5_write_29 rfl (lv_at hl 0 rfl) ?_
      obtain ⟨v15, e16, hF⟩ := hp_b hF
      refine hp_getr X Y (C := RX5) (T := TX5) (N := 6) (ci := 5) (k := 5) rfl inX5_write_X5 (by decide) lkX5_write_f40 e16 dX5_write_30 ?_
      refine lv_aload_n X.1 X.2.1 dX5_write_33 rfl (lv_at hl 0 rfl) ?_
      obtain ⟨v17, e18, hF⟩ := hp_b hF
      refine hp_getr X Y (C := RX5) (T := TX5) (N := 6) (ci := 5) (k := 1) rfl inX5_write_X5 (by decide) lkX5_write_f16 e18 dX5_write_34 ?_
      refine lv_iload_n X.1 X.2.1 dX5_write_37 rfl (lv_at hl 2 rfl) ?_
      obtain ⟨h20, e19, hF⟩ := hp_b hF
      refine hp_cv Y (hp_runV X Y (ci := 3) (As := [.ref v17, .int x2]) (n := 2) (T := TX3) (N := 2) (mX3_spell l G e19) rfl (oX3_spell e19) gX5_write_X3_spell rfl rfl rfl ndX3_spell ⟨Nat.le_of_ble_eq_true rfl, Nat.le_of_ble_eq_true rfl⟩ rfl hl.1 rfl (Nat.le_of_ble_eq_true rfl) dX5_write_38 ⟨Nat.zero_le _, Nat.zero_le _⟩) (fun H locs Y => ?_)
      refine lv_aload_n X.1 X.2.1 dX5_write_41 rfl (lv_at hl 0 rfl) ?_
      obtain ⟨v21, e22, hF⟩ := hp_b hF
      refine hp_getr X Y (C := RX5) (T := TX5) (N := 6) (ci := 5) (k := 5) rfl inX5_write_X5 (by decide) lkX5_write_f40 e22 dX5_write_42 ?_
      obtain ⟨v23, e24, hF⟩ := hp_b hF
      refine hp_geti X Y (C := RX3) (T := TX3) (N := 2) (ci := 3) (k := 1) rfl inX5_write_X3 (by decide) lkX5_write_f164 e24 dX5_write_45 ?_
      cases hF
      exact hp_ri X Y rfl rfl dX5_write_48
    · have hF := hp_ifp (c6) hF
      refine lv_iconst (v := -1) X.1 X.2.1 dX5_write_14 (by decide) ?_
      cases hF
      exact hp_ri X Y rfl rfl dX5_write_15

/-! WholeNumbers.type -/
def rmX5_type : Room := { frames := 1, cells := 0, slots := 0, locals := 21 }
def fX5_type (x0 : Nat) (x1 : Int32) (h : hp_H) : Option (Int32 × hp_H) :=
  if hp_o h x0 5 = true then
  if x1 < 0 then (
    some ((-1 : Int32), h))
  else (
    if (127 : Int32) < x1 then (
      some ((-1 : Int32), h))
    else (
      (hp_gr h x0 5 5).bind fun v3 =>
      (hp_gi h v3 3 1).bind fun v5 =>
      if v5 < (1300 : Int32) then (
        (hp_gr h x0 5 5).bind fun v8 =>
        (fX3_append v8 (hp_i2c x1) h).bind fun h11 =>
        (hp_gr h11 x0 5 5).bind fun v12 =>
        (hp_gi h11 v12 3 1).bind fun v14 =>
        some (v14, h11))
      else (
        some ((-1 : Int32), h))))
  else none
theorem inX5_type_X3 : ∀ w ∈ wsX30, w ∈ wsX5_type := by decide +kernel
theorem inX5_type_X5 : ∀ w ∈ wsX50, w ∈ wsX5_type := by decide +kernel
theorem lkX5_type_f40 : Cond.fieldLink RX5 40 (TX5 5).1 (TX5 5).2.1 (TX5 5).2.2.1 ∈ wsX5_type := by decide +kernel
theorem lkX5_type_f164 : Cond.fieldLink RX5 164 (TX3 1).1 (TX3 1).2.1 (TX3 1).2.2.1 ∈ wsX5_type := by decide +kernel
theorem ndX5_type : yX5_type.cls ≠ "java/lang/invoke/MethodHandle" ∧ yX5_type.cls ≠ "java/lang/invoke/VarHandle" ∧ (parseMethodDescriptor yX5_type.desc).map (fun d => d.parameters.length) = some 1 := by decide +kernel
theorem oX5_type {x0 : Nat} {x1 : Int32} {h h' : hp_H} {r : Int32} (hF : fX5_type x0 x1 h = some (r, h')) : hp_o h x0 5 = true := by
  unfold fX5_type at hF
  exact (hp_ift hF).1
set_option maxRecDepth 100000 in
set_option maxHeartbeats 4000000 in
theorem mX5_type (l : Launch) (G : hp_G) {x0 : Nat} {x1 : Int32} {h h' : hp_H} {r : Int32} (hF : fX5_type x0 x1 h = some (r, h')) : Met l yX5_type wsX5_type rmX5_type (va_Pc [.ref x0, .int x1] (hp_S G h)) (va_Qi (fun r' u => r' = r ∧ u = h') (hp_B G h) (hp_A h)) 0 0 (hp_A h) := by
  refine hp_met (cc := cX5_type) (nL := 2) (ret := (some .int)) (by decide) rfl ?_
  intro p e s m below meth c X Y
  have hl := lv_entry ([.ref x0, .int x1]) (n := 2) (Nat.le_of_ble_eq_true rfl)
  rw [lg_entry_eq]
  generalize (lg_sl ([.ref x0, .int x1]) ++ List.replicate (2 - (lg_sl ([.ref x0, .int x1])).length) Slot.unset).toArray = ls at hl ⊢
  have hl : lv_has ls 2 [(0, .ref x0), (1, .int x1)] := hl
  unfold fX5_type at hF
  obtain ⟨ho, hF⟩ := hp_ift hF
  refine lv_iload_n X.1 X.2.1 dX5_type_0 rfl (lv_at hl 1 rfl) ?_
  refine lv_if_lt (tgt := 23) X.1 X.2.1 dX5_type_1 (by decide) (fun c1 => ?_) (fun c1 => ?_)
  · have hF := hp_ifp (c1) hF
    refine lv_iconst (v := -1) X.1 X.2.1 dX5_type_23 (by decide) ?_
    cases hF
    exact hp_ri X Y rfl rfl dX5_type_24
  · have hF := hp_ifn (c1) hF
    refine lv_iload_n X.1 X.2.1 dX5_type_4 rfl (lv_at hl 1 rfl) ?_
    refine lv_bipush (v := 127) X.1 X.2.1 dX5_type_5 (by decide) ?_
    refine lv_icmp_gt (tgt := 23) X.1 X.2.1 dX5_type_7 (by decide) (fun c2 => ?_) (fun c2 => ?_)
    · have hF := hp_ifp (c2) hF
      refine lv_iconst (v := -1) X.1 X.2.1 dX5_type_23 (by decide) ?_
      cases hF
      exact hp_ri X Y rfl rfl dX5_type_24
    · have hF := hp_ifn (c2) hF
      refine lv_aload_n X.1 X.2.1 dX5_type_10 rfl (lv_at hl 0 rfl) ?_
      obtain ⟨v3, e4, hF⟩ := hp_b hF
      refine hp_getr X Y (C := RX5) (T := TX5) (N := 6) (ci := 5) (k := 5) rfl inX5_type_X5 (by decide) lkX5_type_f40 e4 dX5_type_11 ?_
      obtain ⟨v5, e6, hF⟩ := hp_b hF
      refine hp_geti X Y (C := RX3) (T := TX3) (N := 2) (ci := 3) (k := 1) rfl inX5_type_X3 (by decide) lkX5_type_f164 e6 dX5_type_14 ?_
      refine lv_sipush (v := 1300) X.1 X.2.1 dX5_type_17 (by decide) ?_
      refine lv_icmp_lt (tgt := 25) X.1 X.2.1 dX5_type_20 (by decide) (fun c7 => ?_) (fun c7 => ?_)
      · have hF := hp_ifp (c7) hF
        refine lv_aload_n X.1 X.2.1 dX5_type_25 rfl (lv_at hl 0 rfl) ?_
        obtain ⟨v8, e9, hF⟩ := hp_b hF
        refine hp_getr X Y (C := RX5) (T := TX5) (N := 6) (ci := 5) (k := 5) rfl inX5_type_X5 (by decide) lkX5_type_f40 e9 dX5_type_26 ?_
        refine lv_iload_n X.1 X.2.1 dX5_type_29 rfl (lv_at hl 1 rfl) ?_
        refine lv_i2c (v := hp_i2c x1) X.1 X.2.1 dX5_type_30 rfl ?_
        obtain ⟨h11, e10, hF⟩ := hp_b hF
        refine hp_cv Y (hp_runV X Y (ci := 3) (As := [.int (hp_i2c x1)]) (n := 1) (T := TX3) (N := 2) (mX3_append l G e10) rfl (oX3_append e10) gX5_type_X3_append rfl rfl rfl ndX3_append ⟨Nat.le_of_ble_eq_true rfl, Nat.le_of_ble_eq_true rfl⟩ rfl hl.1 rfl (Nat.le_of_ble_eq_true rfl) dX5_type_31 ⟨Nat.zero_le _, Nat.zero_le _⟩) (fun H locs Y => ?_)
        refine lv_aload_n X.1 X.2.1 dX5_type_34 rfl (lv_at hl 0 rfl) ?_
        obtain ⟨v12, e13, hF⟩ := hp_b hF
        refine hp_getr X Y (C := RX5) (T := TX5) (N := 6) (ci := 5) (k := 5) rfl inX5_type_X5 (by decide) lkX5_type_f40 e13 dX5_type_35 ?_
        obtain ⟨v14, e15, hF⟩ := hp_b hF
        refine hp_geti X Y (C := RX3) (T := TX3) (N := 2) (ci := 3) (k := 1) rfl inX5_type_X3 (by decide) lkX5_type_f164 e15 dX5_type_38 ?_
        cases hF
        exact hp_ri X Y rfl rfl dX5_type_41
      · have hF := hp_ifn (c7) hF
        refine lv_iconst (v := -1) X.1 X.2.1 dX5_type_23 (by decide) ?_
        cases hF
        exact hp_ri X Y rfl rfl dX5_type_24

/-! WholeNumbers.clear -/
def rmX5_clear : Room := { frames := 0, cells := 0, slots := 0, locals := 0 }
def fX5_clear (x0 : Nat) (h : hp_H) : Option hp_H :=
  if hp_o h x0 5 = true then
  (hp_gr h x0 5 5).bind fun v1 =>
  (hp_pv h v1 3 1 (.int (0 : Int32))).bind fun h3 =>
  some h3
  else none
theorem inX5_clear_X3 : ∀ w ∈ wsX30, w ∈ wsX5_clear := by decide +kernel
theorem inX5_clear_X5 : ∀ w ∈ wsX50, w ∈ wsX5_clear := by decide +kernel
theorem lkX5_clear_f40 : Cond.fieldLink RX5 40 (TX5 5).1 (TX5 5).2.1 (TX5 5).2.2.1 ∈ wsX5_clear := by decide +kernel
theorem lkX5_clear_f164 : Cond.fieldLink RX5 164 (TX3 1).1 (TX3 1).2.1 (TX3 1).2.2.1 ∈ wsX5_clear := by decide +kernel
theorem ndX5_clear : yX5_clear.cls ≠ "java/lang/invoke/MethodHandle" ∧ yX5_clear.cls ≠ "java/lang/invoke/VarHandle" ∧ (parseMethodDescriptor yX5_clear.desc).map (fun d => d.parameters.length) = some 0 := by decide +kernel
theorem oX5_clear {x0 : Nat} {h h' : hp_H}  (hF : fX5_clear x0 h = some h') : hp_o h x0 5 = true := by
  unfold fX5_clear at hF
  exact (hp_ift hF).1
set_option maxRecDepth 100000 in
set_option maxHeartbeats 4000000 in
theorem mX5_clear (l : Launch) (G : hp_G) {x0 : Nat} {h h' : hp_H}  (hF : fX5_clear x0 h = some h') : Met l yX5_clear wsX5_clear rmX5_clear (va_Pc [.ref x0] (hp_S G h)) (va_Qv (fun u => u = h') (hp_B G h) (hp_A h)) 0 0 (hp_A h) := by
  refine hp_met (cc := cX5_clear) (nL := 1) (ret := none) (by decide) rfl ?_
  intro p e s m below meth c X Y
  have hl := lv_entry ([.ref x0]) (n := 1) (Nat.le_of_ble_eq_true rfl)
  rw [lg_entry_eq]
  generalize (lg_sl ([.ref x0]) ++ List.replicate (1 - (lg_sl ([.ref x0])).length) Slot.unset).toArray = ls at hl ⊢
  have hl : lv_has ls 1 [(0, .ref x0)] := hl
  unfold fX5_clear at hF
  obtain ⟨ho, hF⟩ := hp_ift hF
  refine lv_aload_n X.1 X.2.1 dX5_clear_0 rfl (lv_at hl 0 rfl) ?_
  obtain ⟨v1, e2, hF⟩ := hp_b hF
  refine hp_getr X Y (C := RX5) (T := TX5) (N := 6) (ci := 5) (k := 5) rfl inX5_clear_X5 (by decide) lkX5_clear_f40 e2 dX5_clear_1 ?_
  refine lv_iconst (v := 0) X.1 X.2.1 dX5_clear_4 (by decide) ?_
  obtain ⟨h3, e4, hF⟩ := hp_b hF
  refine hp_put X Y (C := RX3) (T := TX3) (N := 2) (ci := 3) (k := 1) (ty0 := tyX3) rfl inX5_clear_X3 tyX3_ok nmX3 (by decide) lkX5_clear_f164 rfl rfl rfl e4 dX5_clear_5 (fun H locs Y => ?_)
  cases hF
  exact hp_rv X Y rfl dX5_clear_8

/-! WholeNumbers.character -/
def rmX5_character : Room := { frames := 0, cells := 0, slots := 0, locals := 0 }
def fX5_character (x0 : Nat) (x1 : Int32) (h : hp_H) : Option Int32 :=
  if hp_o h x0 5 = true then
  if x1 < 0 then (
    some (-1 : Int32))
  else (
    (hp_gr h x0 5 5).bind fun v2 =>
    (hp_gi h v2 3 1).bind fun v4 =>
    if v4 ≤ x1 then (
      some (-1 : Int32))
    else (
      (hp_gr h x0 5 5).bind fun v7 =>
      (hp_gr h v7 3 0).bind fun v9 =>
      (hp_ai h 1 v9 x1).bind fun v11 =>
      some v11))
  else none
theorem inX5_character_X3 : ∀ w ∈ wsX30, w ∈ wsX5_character := by decide +kernel
theorem inX5_character_X5 : ∀ w ∈ wsX50, w ∈ wsX5_character := by decide +kernel
theorem lkX5_character_f40 : Cond.fieldLink RX5 40 (TX5 5).1 (TX5 5).2.1 (TX5 5).2.2.1 ∈ wsX5_character := by decide +kernel
theorem lkX5_character_f164 : Cond.fieldLink RX5 164 (TX3 1).1 (TX3 1).2.1 (TX3 1).2.2.1 ∈ wsX5_character := by decide +kernel
theorem lkX5_character_f172 : Cond.fieldLink RX5 172 (TX3 0).1 (TX3 0).2.1 (TX3 0).2.2.1 ∈ wsX5_character := by decide +kernel
theorem ndX5_character : yX5_character.cls ≠ "java/lang/invoke/MethodHandle" ∧ yX5_character.cls ≠ "java/lang/invoke/VarHandle" ∧ (parseMethodDescriptor yX5_character.desc).map (fun d => d.parameters.length) = some 1 := by decide +kernel
theorem oX5_character {x0 : Nat} {x1 : Int32} {h : hp_H} {r : Int32} (hF : fX5_character x0 x1 h = some r) : hp_o h x0 5 = true := by
  unfold fX5_character at hF
  exact (hp_ift hF).1
set_option maxRecDepth 100000 in
set_option maxHeartbeats 4000000 in
theorem mX5_character (l : Launch) (G : hp_G) {x0 : Nat} {x1 : Int32} {h : hp_H} {r : Int32} (hF : fX5_character x0 x1 h = some r) : Met l yX5_character wsX5_character rmX5_character (va_Pc [.ref x0, .int x1] (hp_S G h)) (va_Qi (fun r' u => r' = r ∧ u = h) (hp_B G h) (hp_A h)) 0 0 (hp_A h) := by
  refine hp_met (cc := cX5_character) (nL := 2) (ret := (some .int)) (by decide) rfl ?_
  intro p e s m below meth c X Y
  have hl := lv_entry ([.ref x0, .int x1]) (n := 2) (Nat.le_of_ble_eq_true rfl)
  rw [lg_entry_eq]
  generalize (lg_sl ([.ref x0, .int x1]) ++ List.replicate (2 - (lg_sl ([.ref x0, .int x1])).length) Slot.unset).toArray = ls at hl ⊢
  have hl : lv_has ls 2 [(0, .ref x0), (1, .int x1)] := hl
  unfold fX5_character at hF
  obtain ⟨ho, hF⟩ := hp_ift hF
  refine lv_iload_n X.1 X.2.1 dX5_character_0 rfl (lv_at hl 1 rfl) ?_
  refine lv_if_lt (tgt := 27) X.1 X.2.1 dX5_character_1 (by decide) (fun c1 => ?_) (fun c1 => ?_)
  · have hF := hp_ifp (c1) hF
    refine lv_iconst (v := -1) X.1 X.2.1 dX5_character_27 (by decide) ?_
    cases hF
    exact hp_ri X Y rfl rfl dX5_character_28
  · have hF := hp_ifn (c1) hF
    refine lv_iload_n X.1 X.2.1 dX5_character_4 rfl (lv_at hl 1 rfl) ?_
    refine lv_aload_n X.1 X.2.1 dX5_character_5 rfl (lv_at hl 0 rfl) ?_
    obtain ⟨v2, e3, hF⟩ := hp_b hF
    refine hp_getr X Y (C := RX5) (T := TX5) (N := 6) (ci := 5) (k := 5) rfl inX5_character_X5 (by decide) lkX5_character_f40 e3 dX5_character_6 ?_
    obtain ⟨v4, e5, hF⟩ := hp_b hF
    refine hp_geti X Y (C := RX3) (T := TX3) (N := 2) (ci := 3) (k := 1) rfl inX5_character_X3 (by decide) lkX5_character_f164 e5 dX5_character_9 ?_
    refine lv_icmp_ge (tgt := 27) X.1 X.2.1 dX5_character_12 (by decide) (fun c6 => ?_) (fun c6 => ?_)
    · have hF := hp_ifp (c6) hF
      refine lv_iconst (v := -1) X.1 X.2.1 dX5_character_27 (by decide) ?_
      cases hF
      exact hp_ri X Y rfl rfl dX5_character_28
    · have hF := hp_ifn (c6) hF
      refine lv_aload_n X.1 X.2.1 dX5_character_15 rfl (lv_at hl 0 rfl) ?_
      obtain ⟨v7, e8, hF⟩ := hp_b hF
      refine hp_getr X Y (C := RX5) (T := TX5) (N := 6) (ci := 5) (k := 5) rfl inX5_character_X5 (by decide) lkX5_character_f40 e8 dX5_character_16 ?_
      obtain ⟨v9, e10, hF⟩ := hp_b hF
      refine hp_getr X Y (C := RX3) (T := TX3) (N := 2) (ci := 3) (k := 0) rfl inX5_character_X3 (by decide) lkX5_character_f172 e10 dX5_character_19 ?_
      refine lv_iload_n X.1 X.2.1 dX5_character_22 rfl (lv_at hl 1 rfl) ?_
      obtain ⟨v11, e12, hF⟩ := hp_b hF
      refine hp_cald X Y e12 dX5_character_23 ?_
      refine lv_goto (tgt := 28) X.1 X.2.1 dX5_character_24 (by decide) ?_
      cases hF
      exact hp_ri X Y rfl rfl dX5_character_28

/-! WholeNumbers.read -/
def rmX5_read : Room := { frames := 5, cells := 0, slots := 0, locals := 113 }
def fX5_read (x0 : Nat) (x1 : Int32) (x2 : Int32) (h : hp_H) : Option (Int32 × hp_H) :=
  if hp_o h x0 5 = true then
  (fX5_isRegister x1).bind fun v2 =>
  if v2 = 0 then (
    some ((-1 : Int32), h))
  else (
    (fX5_isBase x2).bind fun v5 =>
    if v5 = 0 then (
      some ((-1 : Int32), h))
    else (
      (hp_gr h x0 5 5).bind fun v7 =>
      (fX3_tellsNumber v7 x2 h).bind fun v10 =>
      if v10 = 0 then (
        some ((-1 : Int32), h))
      else (
        (hp_gr h x0 5 5).bind fun v12 =>
        (hp_gr h x0 5 1).bind fun v14 =>
        (fX3_tell v12 v14 x2 h).bind fun h17 =>
        (fX5_keepResult x0 x1 h17).bind fun (v20, h19) =>
        some (v20, h19))))
  else none
theorem inX5_read_X5 : ∀ w ∈ wsX50, w ∈ wsX5_read := by decide +kernel
theorem lkX5_read_f40 : Cond.fieldLink RX5 40 (TX5 5).1 (TX5 5).2.1 (TX5 5).2.2.1 ∈ wsX5_read := by decide +kernel
theorem lkX5_read_f16 : Cond.fieldLink RX5 16 (TX5 1).1 (TX5 1).2.1 (TX5 1).2.2.1 ∈ wsX5_read := by decide +kernel
theorem ndX5_read : yX5_read.cls ≠ "java/lang/invoke/MethodHandle" ∧ yX5_read.cls ≠ "java/lang/invoke/VarHandle" ∧ (parseMethodDescriptor yX5_read.desc).map (fun d => d.parameters.length) = some 2 := by decide +kernel
theorem oX5_read {x0 : Nat} {x1 : Int32} {x2 : Int32} {h h' : hp_H} {r : Int32} (hF : fX5_read x0 x1 x2 h = some (r, h')) : hp_o h x0 5 = true := by
  unfold fX5_read at hF
  exact (hp_ift hF).1
set_option maxRecDepth 100000 in
set_option maxHeartbeats 4000000 in
theorem mX5_read (l : Launch) (G : hp_G) {x0 : Nat} {x1 : Int32} {x2 : Int32} {h h' : hp_H} {r : Int32} (hF : fX5_read x0 x1 x2 h = some (r, h')) : Met l yX5_read wsX5_read rmX5_read (va_Pc [.ref x0, .int x1, .int x2] (hp_S G h)) (va_Qi (fun r' u => r' = r ∧ u = h') (hp_B G h) (hp_A h)) 0 0 (hp_A h) := by
  refine hp_met (cc := cX5_read) (nL := 3) (ret := (some .int)) (by decide) rfl ?_
  intro p e s m below meth c X Y
  have hl := lv_entry ([.ref x0, .int x1, .int x2]) (n := 3) (Nat.le_of_ble_eq_true rfl)
  rw [lg_entry_eq]
  generalize (lg_sl ([.ref x0, .int x1, .int x2]) ++ List.replicate (3 - (lg_sl ([.ref x0, .int x1, .int x2])).length) Slot.unset).toArray = ls at hl ⊢
  have hl : lv_has ls 3 [(0, .ref x0), (1, .int x1), (2, .int x2)] := hl
  unfold fX5_read at hF
  obtain ⟨ho, hF⟩ := hp_ift hF
  refine lv_iload_n X.1 X.2.1 dX5_read_0 rfl (lv_at hl 1 rfl) ?_
  obtain ⟨v2, e1, hF⟩ := hp_b hF
  refine hp_ci Y (hp_runS X Y (As := [.int x1]) (n := 1) (mX5_isRegister l G e1) gX5_read_X5_isRegister rfl rfl rfl ndX5_isRegister ⟨Nat.le_of_ble_eq_true rfl, Nat.le_of_ble_eq_true rfl⟩ rfl hl.1 rfl (Nat.le_of_ble_eq_true rfl) dX5_read_1 ⟨Nat.zero_le _, Nat.zero_le _⟩) (fun H locs Y => ?_)
  refine lv_if_eq (tgt := 25) X.1 X.2.1 dX5_read_4 (by decide) (fun c3 => ?_) (fun c3 => ?_)
  · have hF := hp_ifp (c3) hF
    refine lv_iconst (v := -1) X.1 X.2.1 dX5_read_25 (by decide) ?_
    cases hF
    exact hp_ri X Y rfl rfl dX5_read_26
  · have hF := hp_ifn (c3) hF
    refine lv_iload_n X.1 X.2.1 dX5_read_7 rfl (lv_at hl 2 rfl) ?_
    obtain ⟨v5, e4, hF⟩ := hp_b hF
    refine hp_ci Y (hp_runS X Y (As := [.int x2]) (n := 1) (mX5_isBase l G e4) gX5_read_X5_isBase rfl rfl rfl ndX5_isBase ⟨Nat.le_of_ble_eq_true rfl, Nat.le_of_ble_eq_true rfl⟩ rfl hl.1 rfl (Nat.le_of_ble_eq_true rfl) dX5_read_8 ⟨Nat.zero_le _, Nat.zero_le _⟩) (fun H locs Y => ?_)
    refine lv_if_eq (tgt := 25) X.1 X.2.1 dX5_read_11 (by decide) (fun c6 => ?_) (fun c6 => ?_)
    · have hF := hp_ifp (c6) hF
      refine lv_iconst (v := -1) X.1 X.2.1 dX5_read_25 (by decide) ?_
      cases hF
      exact hp_ri X Y rfl rfl dX5_read_26
    · have hF := hp_ifn (c6) hF
      refine lv_aload_n X.1 X.2.1 dX5_read_14 rfl (lv_at hl 0 rfl) ?_
      obtain ⟨v7, e8, hF⟩ := hp_b hF
      refine hp_getr X Y (C := RX5) (T := TX5) (N := 6) (ci := 5) (k := 5) rfl inX5_read_X5 (by decide) lkX5_read_f40 e8 dX5_read_15 ?_
      refine lv_iload_n X.1 X.2.1 dX5_read_18 rfl (lv_at hl 2 rfl) ?_
      obtain ⟨v10, e9, hF⟩ := hp_b hF
      refine hp_ci Y (hp_runV X Y (ci := 3) (As := [.int x2]) (n := 1) (T := TX3) (N := 2) (mX3_tellsNumber l G e9) rfl (oX3_tellsNumber e9) gX5_read_X3_tellsNumber rfl rfl rfl ndX3_tellsNumber ⟨Nat.le_of_ble_eq_true rfl, Nat.le_of_ble_eq_true rfl⟩ rfl hl.1 rfl (Nat.le_of_ble_eq_true rfl) dX5_read_19 ⟨Nat.zero_le _, Nat.zero_le _⟩) (fun H locs Y => ?_)
      refine lv_if_ne (tgt := 27) X.1 X.2.1 dX5_read_22 (by decide) (fun c11 => ?_) (fun c11 => ?_)
      · have hF := hp_ifn (c11) hF
        refine lv_aload_n X.1 X.2.1 dX5_read_27 rfl (lv_at hl 0 rfl) ?_
        obtain ⟨v12, e13, hF⟩ := hp_b hF
        refine hp_getr X Y (C := RX5) (T := TX5) (N := 6) (ci := 5) (k := 5) rfl inX5_read_X5 (by decide) lkX5_read_f40 e13 dX5_read_28 ?_
        refine lv_aload_n X.1 X.2.1 dX5_read_31 rfl (lv_at hl 0 rfl) ?_
        obtain ⟨v14, e15, hF⟩ := hp_b hF
        refine hp_getr X Y (C := RX5) (T := TX5) (N := 6) (ci := 5) (k := 1) rfl inX5_read_X5 (by decide) lkX5_read_f16 e15 dX5_read_32 ?_
        refine lv_iload_n X.1 X.2.1 dX5_read_35 rfl (lv_at hl 2 rfl) ?_
        obtain ⟨h17, e16, hF⟩ := hp_b hF
        refine hp_cv Y (hp_runV X Y (ci := 3) (As := [.ref v14, .int x2]) (n := 2) (T := TX3) (N := 2) (mX3_tell l G e16) rfl (oX3_tell e16) gX5_read_X3_tell rfl rfl rfl ndX3_tell ⟨Nat.le_of_ble_eq_true rfl, Nat.le_of_ble_eq_true rfl⟩ rfl hl.1 rfl (Nat.le_of_ble_eq_true rfl) dX5_read_36 ⟨Nat.zero_le _, Nat.zero_le _⟩) (fun H locs Y => ?_)
        refine lv_aload_n X.1 X.2.1 dX5_read_39 rfl (lv_at hl 0 rfl) ?_
        refine lv_iload_n X.1 X.2.1 dX5_read_40 rfl (lv_at hl 1 rfl) ?_
        obtain ⟨⟨v20, h19⟩, e18, hF⟩ := hp_b hF
        refine hp_ci Y (hp_runV X Y (ci := 5) (As := [.int x1]) (n := 1) (T := TX5) (N := 6) (mX5_keepResult l G e18) rfl (oX5_keepResult e18) gX5_read_X5_keepResult rfl rfl rfl ndX5_keepResult ⟨Nat.le_of_ble_eq_true rfl, Nat.le_of_ble_eq_true rfl⟩ rfl hl.1 rfl (Nat.le_of_ble_eq_true rfl) dX5_read_41 ⟨Nat.zero_le _, Nat.zero_le _⟩) (fun H locs Y => ?_)
        cases hF
        exact hp_ri X Y rfl rfl dX5_read_44
      · have hF := hp_ifp (c11) hF
        refine lv_iconst (v := -1) X.1 X.2.1 dX5_read_25 (by decide) ?_
        cases hF
        exact hp_ri X Y rfl rfl dX5_read_26

/-! WholeNumbers.cutQuotient -/
def rmX5_cutQuotient : Room := { frames := 4, cells := 0, slots := 0, locals := 104 }
def bX5_cutQuotient_52  (x0 : Nat) (x1 : Nat) (t0 : Nat) (t1 : Int32) (h : hp_H) : Option hp_H :=
  (fX4_takeSign t0 t1 h).bind fun h2 =>
  (hp_gr h2 x0 5 2).bind fun v3 =>
  (hp_gr h2 v3 4 0).bind fun v5 =>
  (hp_gr h2 x0 5 3).bind fun v7 =>
  (hp_gr h2 v7 1 1).bind fun v9 =>
  (fX2_take v5 v9 h2).bind fun h12 =>
  (hp_gr h12 x0 5 2).bind fun v13 =>
  (hp_gi h12 x1 4 1).bind fun v15 =>
  (fX4_takeSign v13 v15 h12).bind fun h18 =>
  some h18
def fX5_cutQuotient (x0 : Nat) (x1 : Nat) (x2 : Nat) (h : hp_H) : Option hp_H :=
  if hp_o h x0 5 = true then
  (hp_gr h x0 5 3).bind fun v1 =>
  (hp_gr h x1 4 0).bind fun v3 =>
  (hp_gr h x2 4 0).bind fun v5 =>
  (fX1_split v1 v3 v5 h).bind fun h8 =>
  (hp_gr h8 x0 5 1).bind fun v9 =>
  (hp_gr h8 v9 4 0).bind fun v11 =>
  (hp_gr h8 x0 5 3).bind fun v13 =>
  (hp_gr h8 v13 1 0).bind fun v15 =>
  (fX2_take v11 v15 h8).bind fun h18 =>
  (hp_gr h18 x0 5 1).bind fun v19 =>
  (hp_gi h18 x1 4 1).bind fun v21 =>
  (hp_gi h18 x2 4 1).bind fun v23 =>
  if v21 = v23 then (
    bX5_cutQuotient_52 x0 x1 v19 (0 : Int32) h18)
  else (
    bX5_cutQuotient_52 x0 x1 v19 (1 : Int32) h18)
  else none
theorem inX5_cutQuotient_X1 : ∀ w ∈ wsX10, w ∈ wsX5_cutQuotient := by decide +kernel
theorem inX5_cutQuotient_X4 : ∀ w ∈ wsX40, w ∈ wsX5_cutQuotient := by decide +kernel
theorem inX5_cutQuotient_X5 : ∀ w ∈ wsX50, w ∈ wsX5_cutQuotient := by decide +kernel
theorem lkX5_cutQuotient_f20 : Cond.fieldLink RX5 20 (TX5 2).1 (TX5 2).2.1 (TX5 2).2.2.1 ∈ wsX5_cutQuotient := by decide +kernel
theorem lkX5_cutQuotient_f72 : Cond.fieldLink RX5 72 (TX4 0).1 (TX4 0).2.1 (TX4 0).2.2.1 ∈ wsX5_cutQuotient := by decide +kernel
theorem lkX5_cutQuotient_f26 : Cond.fieldLink RX5 26 (TX5 3).1 (TX5 3).2.1 (TX5 3).2.2.1 ∈ wsX5_cutQuotient := by decide +kernel
theorem lkX5_cutQuotient_f189 : Cond.fieldLink RX5 189 (TX1 1).1 (TX1 1).2.1 (TX1 1).2.2.1 ∈ wsX5_cutQuotient := by decide +kernel
theorem lkX5_cutQuotient_f56 : Cond.fieldLink RX5 56 (TX4 1).1 (TX4 1).2.1 (TX4 1).2.2.1 ∈ wsX5_cutQuotient := by decide +kernel
theorem lkX5_cutQuotient_f16 : Cond.fieldLink RX5 16 (TX5 1).1 (TX5 1).2.1 (TX5 1).2.2.1 ∈ wsX5_cutQuotient := by decide +kernel
theorem lkX5_cutQuotient_f186 : Cond.fieldLink RX5 186 (TX1 0).1 (TX1 0).2.1 (TX1 0).2.2.1 ∈ wsX5_cutQuotient := by decide +kernel
theorem ndX5_cutQuotient : yX5_cutQuotient.cls ≠ "java/lang/invoke/MethodHandle" ∧ yX5_cutQuotient.cls ≠ "java/lang/invoke/VarHandle" ∧ (parseMethodDescriptor yX5_cutQuotient.desc).map (fun d => d.parameters.length) = some 2 := by decide +kernel
set_option maxRecDepth 100000 in
set_option maxHeartbeats 4000000 in
theorem wX5_cutQuotient_52 {p : Program} {l : Launch} {e : Env} {s : State} {m : MethodId} {args : Array Value} {below : List Frame} {meth : Method} {c : Code} {G : hp_G} {h0 h' : hp_H}  (X : hp_X p s m args meth c cX5_cutQuotient 3 RX5 wsX5_cutQuotient none G)  {x0 : Nat} {x1 : Nat}   {t0 : Nat} {t1 : Int32} {h : hp_H} {H : Heap} {locs : List Loc} {ls : Array Slot} (Y : hp_Y G h h0 s H locs) (hl : lv_has ls 3 [(0, .ref x0), (1, .ref x1)]) (hF : bX5_cutQuotient_52 x0 x1 t0 t1 h = some h') : W p l e rmX5_cutQuotient s m args below meth c H locs 0 0 (MQ below (va_Qv (fun u => u = h') (hp_B G h0) (hp_A h0)) args s 0 0 (hp_A h0)) (F0 m 52 ls [.int t1, .ref t0]) := by
  unfold bX5_cutQuotient_52 at hF
  obtain ⟨h2, e1, hF⟩ := hp_b hF
  refine hp_cv Y (hp_runV X Y (ci := 4) (As := [.int t1]) (n := 1) (T := TX4) (N := 2) (mX4_takeSign l G e1) rfl (oX4_takeSign e1) gX5_cutQuotient_X4_takeSign rfl rfl rfl ndX4_takeSign ⟨Nat.le_of_ble_eq_true rfl, Nat.le_of_ble_eq_true rfl⟩ rfl hl.1 rfl (Nat.le_of_ble_eq_true rfl) dX5_cutQuotient_52 ⟨Nat.zero_le _, Nat.zero_le _⟩) (fun H locs Y => ?_)
  refine lv_aload_n X.1 X.2.1 dX5_cutQuotient_55 rfl (lv_at hl 0 rfl) ?_
  obtain ⟨v3, e4, hF⟩ := hp_b hF
  refine hp_getr X Y (C := RX5) (T := TX5) (N := 6) (ci := 5) (k := 2) rfl inX5_cutQuotient_X5 (by decide) lkX5_cutQuotient_f20 e4 dX5_cutQuotient_56 ?_
  obtain ⟨v5, e6, hF⟩ := hp_b hF
  refine hp_getr X Y (C := RX4) (T := TX4) (N := 2) (ci := 4) (k := 0) rfl inX5_cutQuotient_X4 (by decide) lkX5_cutQuotient_f72 e6 dX5_cutQuotient_59 ?_
  refine lv_aload_n X.1 X.2.1 dX5_cutQuotient_62 rfl (lv_at hl 0 rfl) ?_
  obtain ⟨v7, e8, hF⟩ := hp_b hF
  refine hp_getr X Y (C := RX5) (T := TX5) (N := 6) (ci := 5) (k := 3) rfl inX5_cutQuotient_X5 (by decide) lkX5_cutQuotient_f26 e8 dX5_cutQuotient_63 ?_
  obtain ⟨v9, e10, hF⟩ := hp_b hF
  refine hp_getr X Y (C := RX1) (T := TX1) (N := 3) (ci := 1) (k := 1) rfl inX5_cutQuotient_X1 (by decide) lkX5_cutQuotient_f189 e10 dX5_cutQuotient_66 ?_
  obtain ⟨h12, e11, hF⟩ := hp_b hF
  refine hp_cv Y (hp_runV X Y (ci := 2) (As := [.ref v9]) (n := 1) (T := TX2) (N := 2) (mX2_take l G e11) rfl (oX2_take e11) gX5_cutQuotient_X2_take rfl rfl rfl ndX2_take ⟨Nat.le_of_ble_eq_true rfl, Nat.le_of_ble_eq_true rfl⟩ rfl hl.1 rfl (Nat.le_of_ble_eq_true rfl) dX5_cutQuotient_69 ⟨Nat.zero_le _, Nat.zero_le _⟩) (fun H locs Y => ?_)
  refine lv_aload_n X.1 X.2.1 dX5_cutQuotient_72 rfl (lv_at hl 0 rfl) ?_
  obtain ⟨v13, e14, hF⟩ := hp_b hF
  refine hp_getr X Y (C := RX5) (T := TX5) (N := 6) (ci := 5) (k := 2) rfl inX5_cutQuotient_X5 (by decide) lkX5_cutQuotient_f20 e14 dX5_cutQuotient_73 ?_
  refine lv_aload_n X.1 X.2.1 dX5_cutQuotient_76 rfl (lv_at hl 1 rfl) ?_
  obtain ⟨v15, e16, hF⟩ := hp_b hF
  refine hp_geti X Y (C := RX4) (T := TX4) (N := 2) (ci := 4) (k := 1) rfl inX5_cutQuotient_X4 (by decide) lkX5_cutQuotient_f56 e16 dX5_cutQuotient_77 ?_
  obtain ⟨h18, e17, hF⟩ := hp_b hF
  refine hp_cv Y (hp_runV X Y (ci := 4) (As := [.int v15]) (n := 1) (T := TX4) (N := 2) (mX4_takeSign l G e17) rfl (oX4_takeSign e17) gX5_cutQuotient_X4_takeSign rfl rfl rfl ndX4_takeSign ⟨Nat.le_of_ble_eq_true rfl, Nat.le_of_ble_eq_true rfl⟩ rfl hl.1 rfl (Nat.le_of_ble_eq_true rfl) dX5_cutQuotient_80 ⟨Nat.zero_le _, Nat.zero_le _⟩) (fun H locs Y => ?_)
  cases hF
  exact hp_rv X Y rfl dX5_cutQuotient_83
theorem oX5_cutQuotient {x0 : Nat} {x1 : Nat} {x2 : Nat} {h h' : hp_H}  (hF : fX5_cutQuotient x0 x1 x2 h = some h') : hp_o h x0 5 = true := by
  unfold fX5_cutQuotient at hF
  exact (hp_ift hF).1
set_option maxRecDepth 100000 in
set_option maxHeartbeats 4000000 in
theorem mX5_cutQuotient (l : Launch) (G : hp_G) {x0 : Nat} {x1 : Nat} {x2 : Nat} {h h' : hp_H}  (hF : fX5_cutQuotient x0 x1 x2 h = some h') : Met l yX5_cutQuotient wsX5_cutQuotient rmX5_cutQuotient (va_Pc [.ref x0, .ref x1, .ref x2] (hp_S G h)) (va_Qv (fun u => u = h') (hp_B G h) (hp_A h)) 0 0 (hp_A h) := by
  refine hp_met (cc := cX5_cutQuotient) (nL := 3) (ret := none) (by decide) rfl ?_
  intro p e s m below meth c X Y
  have hl := lv_entry ([.ref x0, .ref x1, .ref x2]) (n := 3) (Nat.le_of_ble_eq_true rfl)
  rw [lg_entry_eq]
  generalize (lg_sl ([.ref x0, .ref x1, .ref x2]) ++ List.replicate (3 - (lg_sl ([.ref x0, .ref x1, .ref x2])).length) Slot.unset).toArray = ls at hl ⊢
  have hl : lv_has ls 3 [(0, .ref x0), (1, .ref x1), (2, .ref x2)] := hl
  unfold fX5_cutQuotient at hF
  obtain ⟨ho, hF⟩ := hp_ift hF
  refine lv_aload_n X.1 X.2.1 dX5_cutQuotient_0 rfl (lv_at hl 0 rfl) ?_
  obtain ⟨v1, e2, hF⟩ := hp_b hF
  refine hp_getr X Y (C := RX5) (T := TX5) (N := 6) (ci := 5) (k := 3) rfl inX5_cutQuotient_X5 (by decide) lkX5_cutQuotient_f26 e2 dX5_cutQuotient_1 ?_
  refine lv_aload_n X.1 X.2.1 dX5_cutQuotient_4 rfl (lv_at hl 1 rfl) ?_
  obtain ⟨v3, e4, hF⟩ := hp_b hF
  refine hp_getr X Y (C := RX4) (T := TX4) (N := 2) (ci := 4) (k := 0) rfl inX5_cutQuotient_X4 (by decide) lkX5_cutQuotient_f72 e4 dX5_cutQuotient_5 ?_
  refine lv_aload_n X.1 X.2.1 dX5_cutQuotient_8 rfl (lv_at hl 2 rfl) ?_
  obtain ⟨v5, e6, hF⟩ := hp_b hF
  refine hp_getr X Y (C := RX4) (T := TX4) (N := 2) (ci := 4) (k := 0) rfl inX5_cutQuotient_X4 (by decide) lkX5_cutQuotient_f72 e6 dX5_cutQuotient_9 ?_
  obtain ⟨h8, e7, hF⟩ := hp_b hF
  refine hp_cv Y (hp_runV X Y (ci := 1) (As := [.ref v3, .ref v5]) (n := 2) (T := TX1) (N := 3) (mX1_split l G e7) rfl (oX1_split e7) gX5_cutQuotient_X1_split rfl rfl rfl ndX1_split ⟨Nat.le_of_ble_eq_true rfl, Nat.le_of_ble_eq_true rfl⟩ rfl hl.1 rfl (Nat.le_of_ble_eq_true rfl) dX5_cutQuotient_12 ⟨Nat.zero_le _, Nat.zero_le _⟩) (fun H locs Y => ?_)
  refine lv_aload_n X.1 X.2.1 dX5_cutQuotient_15 rfl (lv_at hl 0 rfl) ?_
  obtain ⟨v9, e10, hF⟩ := hp_b hF
  refine hp_getr X Y (C := RX5) (T := TX5) (N := 6) (ci := 5) (k := 1) rfl inX5_cutQuotient_X5 (by decide) lkX5_cutQuotient_f16 e10 dX5_cutQuotient_16 ?_
  obtain ⟨v11, e12, hF⟩ := hp_b hF
  refine hp_getr X Y (C := RX4) (T := TX4) (N := 2) (ci := 4) (k := 0) rfl inX5_cutQuotient_X4 (by decide) lkX5_cutQuotient_f72 e12 dX5_cutQuotient_19 ?_
  refine lv_aload_n X.1 X.2.1 dX5_cutQuotient_22 rfl (lv_at hl 0 rfl) ?_
  obtain ⟨v13, e14, hF⟩ := hp_b hF
  refine hp_getr X Y (C := RX5) (T := TX5) (N := 6) (ci := 5) (k := 3) rfl inX5_cutQuotient_X5 (by decide) lkX5_cutQuotient_f26 e14 dX5_cutQuotient_23 ?_
  obtain ⟨v15, e16, hF⟩ := hp_b hF
  refine hp_getr X Y (C := RX1) (T := TX1) (N := 3) (ci := 1) (k := 0) rfl inX5_cutQuotient_X1 (by decide) lkX5_cutQuotient_f186 e16 dX5_cutQuotient_26 ?_
  obtain ⟨h18, e17, hF⟩ := hp_b hF
  refine hp_cv Y (hp_runV X Y (ci := 2) (As := [.ref v15]) (n := 1) (T := TX2) (N := 2) (mX2_take l G e17) rfl (oX2_take e17) gX5_cutQuotient_X2_take rfl rfl rfl ndX2_take ⟨Nat.le_of_ble_eq_true rfl, Nat.le_of_ble_eq_true rfl⟩ rfl hl.1 rfl (Nat.le_of_ble_eq_true rfl) dX5_cutQuotient_29 ⟨Nat.zero_le _, Nat.zero_le _⟩) (fun H locs Y => ?_)
  refine lv_aload_n X.1 X.2.1 dX5_cutQuotient_32 rfl (lv_at hl 0 rfl) ?_
  obtain ⟨v19, e20, hF⟩ := hp_b hF
  refine hp_getr X Y (C := RX5) (T := TX5) (N := 6) (ci := 5) (k := 1) rfl inX5_cutQuotient_X5 (by decide) lkX5_cutQuotient_f16 e20 dX5_cutQuotient_33 ?_
  refine lv_aload_n X.1 X.2.1 dX5_cutQuotient_36 rfl (lv_at hl 1 rfl) ?_
  obtain ⟨v21, e22, hF⟩ := hp_b hF
  refine hp_geti X Y (C := RX4) (T := TX4) (N := 2) (ci := 4) (k := 1) rfl inX5_cutQuotient_X4 (by decide) lkX5_cutQuotient_f56 e22 dX5_cutQuotient_37 ?_
  refine lv_aload_n X.1 X.2.1 dX5_cutQuotient_40 rfl (lv_at hl 2 rfl) ?_
  obtain ⟨v23, e24, hF⟩ := hp_b hF
  refine hp_geti X Y (C := RX4) (T := TX4) (N := 2) (ci := 4) (k := 1) rfl inX5_cutQuotient_X4 (by decide) lkX5_cutQuotient_f56 e24 dX5_cutQuotient_41 ?_
  refine lv_icmp_eq (tgt := 51) X.1 X.2.1 dX5_cutQuotient_44 (by decide) (fun c25 => ?_) (fun c25 => ?_)
  · have hF := hp_ifp (c25) hF
    refine lv_iconst (v := 0) X.1 X.2.1 dX5_cutQuotient_51 (by decide) ?_
    exact wX5_cutQuotient_52 X  Y (lv_sub hl [0, 1] rfl) hF
  · have hF := hp_ifn (c25) hF
    refine lv_iconst (v := 1) X.1 X.2.1 dX5_cutQuotient_47 (by decide) ?_
    refine lv_goto (tgt := 52) X.1 X.2.1 dX5_cutQuotient_48 (by decide) ?_
    exact wX5_cutQuotient_52 X  Y (lv_sub hl [0, 1] rfl) hF

/-! WholeNumbers.stepDown -/
def rmX5_stepDown : Room := { frames := 3, cells := 0, slots := 0, locals := 70 }
def fX5_stepDown (x0 : Nat) (x1 : Nat) (h : hp_H) : Option hp_H :=
  if hp_o h x0 5 = true then
  (hp_gr h x0 5 1).bind fun v1 =>
  (hp_gr h v1 4 0).bind fun v3 =>
  (fX2_timesPlus v3 (1 : Int32) (1 : Int32) h).bind fun h6 =>
  (hp_gr h6 x0 5 1).bind fun v7 =>
  (fX4_takeSign v7 (1 : Int32) h6).bind fun h10 =>
  (hp_gr h10 x0 5 2).bind fun v11 =>
  (hp_gr h10 v11 4 0).bind fun v13 =>
  (hp_gr h10 x1 4 0).bind fun v15 =>
  (hp_gr h10 x0 5 2).bind fun v17 =>
  (hp_gr h10 v17 4 0).bind fun v19 =>
  (fX2_takeDifference v13 v15 v19 h10).bind fun h22 =>
  (hp_gr h22 x0 5 2).bind fun v23 =>
  (hp_gi h22 x1 4 1).bind fun v25 =>
  (fX4_takeSign v23 v25 h22).bind fun h28 =>
  some h28
  else none
theorem inX5_stepDown_X4 : ∀ w ∈ wsX40, w ∈ wsX5_stepDown := by decide +kernel
theorem inX5_stepDown_X5 : ∀ w ∈ wsX50, w ∈ wsX5_stepDown := by decide +kernel
theorem lkX5_stepDown_f16 : Cond.fieldLink RX5 16 (TX5 1).1 (TX5 1).2.1 (TX5 1).2.2.1 ∈ wsX5_stepDown := by decide +kernel
theorem lkX5_stepDown_f72 : Cond.fieldLink RX5 72 (TX4 0).1 (TX4 0).2.1 (TX4 0).2.2.1 ∈ wsX5_stepDown := by decide +kernel
theorem lkX5_stepDown_f20 : Cond.fieldLink RX5 20 (TX5 2).1 (TX5 2).2.1 (TX5 2).2.2.1 ∈ wsX5_stepDown := by decide +kernel
theorem lkX5_stepDown_f56 : Cond.fieldLink RX5 56 (TX4 1).1 (TX4 1).2.1 (TX4 1).2.2.1 ∈ wsX5_stepDown := by decide +kernel
theorem ndX5_stepDown : yX5_stepDown.cls ≠ "java/lang/invoke/MethodHandle" ∧ yX5_stepDown.cls ≠ "java/lang/invoke/VarHandle" ∧ (parseMethodDescriptor yX5_stepDown.desc).map (fun d => d.parameters.length) = some 1 := by decide +kernel
theorem oX5_stepDown {x0 : Nat} {x1 : Nat} {h h' : hp_H}  (hF : fX5_stepDown x0 x1 h = some h') : hp_o h x0 5 = true := by
  unfold fX5_stepDown at hF
  exact (hp_ift hF).1
set_option maxRecDepth 100000 in
set_option maxHeartbeats 4000000 in
theorem mX5_stepDown (l : Launch) (G : hp_G) {x0 : Nat} {x1 : Nat} {h h' : hp_H}  (hF : fX5_stepDown x0 x1 h = some h') : Met l yX5_stepDown wsX5_stepDown rmX5_stepDown (va_Pc [.ref x0, .ref x1] (hp_S G h)) (va_Qv (fun u => u = h') (hp_B G h) (hp_A h)) 0 0 (hp_A h) := by
  refine hp_met (cc := cX5_stepDown) (nL := 2) (ret := none) (by decide) rfl ?_
  intro p e s m below meth c X Y
  have hl := lv_entry ([.ref x0, .ref x1]) (n := 2) (Nat.le_of_ble_eq_true rfl)
  rw [lg_entry_eq]
  generalize (lg_sl ([.ref x0, .ref x1]) ++ List.replicate (2 - (lg_sl ([.ref x0, .ref x1])).length) Slot.unset).toArray = ls at hl ⊢
  have hl : lv_has ls 2 [(0, .ref x0), (1, .ref x1)] := hl
  unfold fX5_stepDown at hF
  obtain ⟨ho, hF⟩ := hp_ift hF
  refine lv_aload_n X.1 X.2.1 dX5_stepDown_0 rfl (lv_at hl 0 rfl) ?_
  obtain ⟨v1, e2, hF⟩ := hp_b hF
  refine hp_getr X Y (C := RX5) (T := TX5) (N := 6) (ci := 5) (k := 1) rfl inX5_stepDown_X5 (by decide) lkX5_stepDown_f16 e2 dX5_stepDown_1 ?_
  obtain ⟨v3, e4, hF⟩ := hp_b hF
  refine hp_getr X Y (C := RX4) (T := TX4) (N := 2) (ci := 4) (k := 0) rfl inX5_stepDown_X4 (by decide) lkX5_stepDown_f72 e4 dX5_stepDown_4 ?_
  refine lv_iconst (v := 1) X.1 X.2.1 dX5_stepDown_7 (by decide) ?_
  refine lv_iconst (v := 1) X.1 X.2.1 dX5_stepDown_8 (by decide) ?_
  obtain ⟨h6, e5, hF⟩ := hp_b hF
  refine hp_cv Y (hp_runV X Y (ci := 2) (As := [.int (1 : Int32), .int (1 : Int32)]) (n := 2) (T := TX2) (N := 2) (mX2_timesPlus l G e5) rfl (oX2_timesPlus e5) gX5_stepDown_X2_timesPlus rfl rfl rfl ndX2_timesPlus ⟨Nat.le_of_ble_eq_true rfl, Nat.le_of_ble_eq_true rfl⟩ rfl hl.1 rfl (Nat.le_of_ble_eq_true rfl) dX5_stepDown_9 ⟨Nat.zero_le _, Nat.zero_le _⟩) (fun H locs Y => ?_)
  refine lv_aload_n X.1 X.2.1 dX5_stepDown_12 rfl (lv_at hl 0 rfl) ?_
  obtain ⟨v7, e8, hF⟩ := hp_b hF
  refine hp_getr X Y (C := RX5) (T := TX5) (N := 6) (ci := 5) (k := 1) rfl inX5_stepDown_X5 (by decide) lkX5_stepDown_f16 e8 dX5_stepDown_13 ?_
  refine lv_iconst (v := 1) X.1 X.2.1 dX5_stepDown_16 (by decide) ?_
  obtain ⟨h10, e9, hF⟩ := hp_b hF
  refine hp_cv Y (hp_runV X Y (ci := 4) (As := [.int (1 : Int32)]) (n := 1) (T := TX4) (N := 2) (mX4_takeSign l G e9) rfl (oX4_takeSign e9) gX5_stepDown_X4_takeSign rfl rfl rfl ndX4_takeSign ⟨Nat.le_of_ble_eq_true rfl, Nat.le_of_ble_eq_true rfl⟩ rfl hl.1 rfl (Nat.le_of_ble_eq_true rfl) dX5_stepDown_17 ⟨Nat.zero_le _, Nat.zero_le _⟩) (fun H locs Y => ?_)
  refine lv_aload_n X.1 X.2.1 dX5_stepDown_20 rfl (lv_at hl 0 rfl) ?_
  obtain ⟨v11, e12, hF⟩ := hp_b hF
  refine hp_getr X Y (C := RX5) (T := TX5) (N := 6) (ci := 5) (k := 2) rfl inX5_stepDown_X5 (by decide) lkX5_stepDown_f20 e12 dX5_stepDown_21 ?_
  obtain ⟨v13, e14, hF⟩ := hp_b hF
  refine hp_getr X Y (C := RX4) (T := TX4) (N := 2) (ci := 4) (k := 0) rfl inX5_stepDown_X4 (by decide) lkX5_stepDown_f72 e14 dX5_stepDown_24 ?_
  refine lv_aload_n X.1 X.2.1 dX5_stepDown_27 rfl (lv_at hl 1 rfl) ?_
  obtain ⟨v15, e16, hF⟩ := hp_b hF
  refine hp_getr X Y (C := RX4) (T := TX4) (N := 2) (ci := 4) (k := 0) rfl inX5_stepDown_X4 (by decide) lkX5_stepDown_f72 e16 dX5_stepDown_28 ?_
  refine lv_aload_n X.1 X.2.1 dX5_stepDown_31 rfl (lv_at hl 0 rfl) ?_
  obtain ⟨v17, e18, hF⟩ := hp_b hF
  refine hp_getr X Y (C := RX5) (T := TX5) (N := 6) (ci := 5) (k := 2) rfl inX5_stepDown_X5 (by decide) lkX5_stepDown_f20 e18 dX5_stepDown_32 ?_
  obtain ⟨v19, e20, hF⟩ := hp_b hF
  refine hp_getr X Y (C := RX4) (T := TX4) (N := 2) (ci := 4) (k := 0) rfl inX5_stepDown_X4 (by decide) lkX5_stepDown_f72 e20 dX5_stepDown_35 ?_
  obtain ⟨h22, e21, hF⟩ := hp_b hF
  refine hp_cv Y (hp_runV X Y (ci := 2) (As := [.ref v15, .ref v19]) (n := 2) (T := TX2) (N := 2) (mX2_takeDifference l G e21) rfl (oX2_takeDifference e21) gX5_stepDown_X2_takeDifference rfl rfl rfl ndX2_takeDifference ⟨Nat.le_of_ble_eq_true rfl, Nat.le_of_ble_eq_true rfl⟩ rfl hl.1 rfl (Nat.le_of_ble_eq_true rfl) dX5_stepDown_38 ⟨Nat.zero_le _, Nat.zero_le _⟩) (fun H locs Y => ?_)
  refine lv_aload_n X.1 X.2.1 dX5_stepDown_41 rfl (lv_at hl 0 rfl) ?_
  obtain ⟨v23, e24, hF⟩ := hp_b hF
  refine hp_getr X Y (C := RX5) (T := TX5) (N := 6) (ci := 5) (k := 2) rfl inX5_stepDown_X5 (by decide) lkX5_stepDown_f20 e24 dX5_stepDown_42 ?_
  refine lv_aload_n X.1 X.2.1 dX5_stepDown_45 rfl (lv_at hl 1 rfl) ?_
  obtain ⟨v25, e26, hF⟩ := hp_b hF
  refine hp_geti X Y (C := RX4) (T := TX4) (N := 2) (ci := 4) (k := 1) rfl inX5_stepDown_X4 (by decide) lkX5_stepDown_f56 e26 dX5_stepDown_46 ?_
  obtain ⟨h28, e27, hF⟩ := hp_b hF
  refine hp_cv Y (hp_runV X Y (ci := 4) (As := [.int v25]) (n := 1) (T := TX4) (N := 2) (mX4_takeSign l G e27) rfl (oX4_takeSign e27) gX5_stepDown_X4_takeSign rfl rfl rfl ndX4_takeSign ⟨Nat.le_of_ble_eq_true rfl, Nat.le_of_ble_eq_true rfl⟩ rfl hl.1 rfl (Nat.le_of_ble_eq_true rfl) dX5_stepDown_49 ⟨Nat.zero_le _, Nat.zero_le _⟩) (fun H locs Y => ?_)
  cases hF
  exact hp_rv X Y rfl dX5_stepDown_52

/-! WholeNumbers.takeRoot -/
def rmX5_takeRoot : Room := { frames := 4, cells := 0, slots := 0, locals := 104 }
def bX5_takeRoot_53  (x0 : Nat) (x1 : Nat) (x2 : Nat) (x3 : Nat) : Nat → Int32 → hp_H → Option hp_H
  | 0, _, _ => none
  | n + 1, x4, h =>
  if (4096 : Int32) ≤ x4 then (
    some h)
  else (
    (hp_gr h x0 5 3).bind fun v2 =>
    (fX1_split v2 x1 x2 h).bind fun h5 =>
    (hp_gr h5 x0 5 3).bind fun v6 =>
    (hp_gr h5 v6 1 0).bind fun v8 =>
    (fX2_takeSum x3 x2 v8 h5).bind fun h11 =>
    (fX2_shiftDown x3 x3 (1 : Int32) h11).bind fun h13 =>
    (fX2_order x3 x2 h13).bind fun v15 =>
    if v15 < 0 then (
      (fX2_take x2 x3 h13).bind fun h18 =>
      (some (x4 + (1 : Int32))).bind fun v19 =>
      bX5_takeRoot_53 x0 x1 x2 x3 n v19 h18)
    else (
      some h13))
def fX5_takeRoot (x0 : Nat) (x1 : Nat) (h : hp_H) : Option hp_H :=
  if hp_o h x0 5 = true then
  (hp_gr h x0 5 1).bind fun v1 =>
  (fX4_takeLong v1 (1 : Int64) h).bind fun h4 =>
  (hp_gr h4 x0 5 1).bind fun v5 =>
  (hp_gr h4 v5 4 0).bind fun v7 =>
  (fX2_isZero x1 h4).bind fun v10 =>
  if v10 = 0 then (
    (fX2_bitLength x1 h4).bind fun v13 =>
    (fX2_shiftUp v7 v7 ((v13 + (1 : Int32)) / (2 : Int32)) h4).bind fun h15 =>
    (hp_gr h15 x0 5 2).bind fun v16 =>
    (hp_gr h15 v16 4 0).bind fun v18 =>
    bX5_takeRoot_53 x0 x1 v7 v18 hp_n (0 : Int32) h15)
  else (
    (fX2_take v7 x1 h4).bind fun h21 =>
    some h21)
  else none
theorem inX5_takeRoot_X1 : ∀ w ∈ wsX10, w ∈ wsX5_takeRoot := by decide +kernel
theorem inX5_takeRoot_X4 : ∀ w ∈ wsX40, w ∈ wsX5_takeRoot := by decide +kernel
theorem inX5_takeRoot_X5 : ∀ w ∈ wsX50, w ∈ wsX5_takeRoot := by decide +kernel
theorem lkX5_takeRoot_f26 : Cond.fieldLink RX5 26 (TX5 3).1 (TX5 3).2.1 (TX5 3).2.2.1 ∈ wsX5_takeRoot := by decide +kernel
theorem lkX5_takeRoot_f186 : Cond.fieldLink RX5 186 (TX1 0).1 (TX1 0).2.1 (TX1 0).2.2.1 ∈ wsX5_takeRoot := by decide +kernel
theorem lkX5_takeRoot_f16 : Cond.fieldLink RX5 16 (TX5 1).1 (TX5 1).2.1 (TX5 1).2.2.1 ∈ wsX5_takeRoot := by decide +kernel
theorem lkX5_takeRoot_f72 : Cond.fieldLink RX5 72 (TX4 0).1 (TX4 0).2.1 (TX4 0).2.2.1 ∈ wsX5_takeRoot := by decide +kernel
theorem lkX5_takeRoot_f20 : Cond.fieldLink RX5 20 (TX5 2).1 (TX5 2).2.1 (TX5 2).2.2.1 ∈ wsX5_takeRoot := by decide +kernel
theorem ndX5_takeRoot : yX5_takeRoot.cls ≠ "java/lang/invoke/MethodHandle" ∧ yX5_takeRoot.cls ≠ "java/lang/invoke/VarHandle" ∧ (parseMethodDescriptor yX5_takeRoot.desc).map (fun d => d.parameters.length) = some 1 := by decide +kernel
set_option maxRecDepth 100000 in
set_option maxHeartbeats 4000000 in
theorem wX5_takeRoot_53 {p : Program} {l : Launch} {e : Env} {s : State} {m : MethodId} {args : Array Value} {below : List Frame} {meth : Method} {c : Code} {G : hp_G} {h0 h' : hp_H}  (X : hp_X p s m args meth c cX5_takeRoot 5 RX5 wsX5_takeRoot none G)  {x0 : Nat} {x1 : Nat} {x2 : Nat} {x3 : Nat}   : ∀ (n : Nat) {x4 : Int32} {h : hp_H} {H : Heap} {locs : List Loc} {ls : Array Slot} (Y : hp_Y G h h0 s H locs) (hl : lv_has ls 5 [(0, .ref x0), (1, .ref x1), (2, .ref x2), (3, .ref x3), (4, .int x4)]) (hF : bX5_takeRoot_53 x0 x1 x2 x3 n x4 h = some h'), W p l e rmX5_takeRoot s m args below meth c H locs 0 0 (MQ below (va_Qv (fun u => u = h') (hp_B G h0) (hp_A h0)) args s 0 0 (hp_A h0)) (F0 m 53 ls []) := by
  intro n
  induction n with
  | zero =>
    intro x4 h H locs ls Y hl hF
    exact absurd (show none = some _ from hF) (by simp)
  | succ n ih =>
    intro x4 h H locs ls Y hl hF
    rw [bX5_takeRoot_53] at hF
    refine lv_iload X.1 X.2.1 dX5_takeRoot_53 (lv_at hl 4 rfl) ?_
    refine lv_sipush (v := 4096) X.1 X.2.1 dX5_takeRoot_55 (by decide) ?_
    refine lv_icmp_ge (tgt := 108) X.1 X.2.1 dX5_takeRoot_58 (by decide) (fun c1 => ?_) (fun c1 => ?_)
    · have hF := hp_ifp (c1) hF
      cases hF
      exact hp_rv X Y rfl dX5_takeRoot_108
    · have hF := hp_ifn (c1) hF
      refine lv_aload_n X.1 X.2.1 dX5_takeRoot_61 rfl (lv_at hl 0 rfl) ?_
      obtain ⟨v2, e3, hF⟩ := hp_b hF
      refine hp_getr X Y (C := RX5) (T := TX5) (N := 6) (ci := 5) (k := 3) rfl inX5_takeRoot_X5 (by decide) lkX5_takeRoot_f26 e3 dX5_takeRoot_62 ?_
      refine lv_aload_n X.1 X.2.1 dX5_takeRoot_65 rfl (lv_at hl 1 rfl) ?_
      refine lv_aload_n X.1 X.2.1 dX5_takeRoot_66 rfl (lv_at hl 2 rfl) ?_
      obtain ⟨h5, e4, hF⟩ := hp_b hF
      refine hp_cv Y (hp_runV X Y (ci := 1) (As := [.ref x1, .ref x2]) (n := 2) (T := TX1) (N := 3) (mX1_split l G e4) rfl (oX1_split e4) gX5_takeRoot_X1_split rfl rfl rfl ndX1_split ⟨Nat.le_of_ble_eq_true rfl, Nat.le_of_ble_eq_true rfl⟩ rfl hl.1 rfl (Nat.le_of_ble_eq_true rfl) dX5_takeRoot_67 ⟨Nat.zero_le _, Nat.zero_le _⟩) (fun H locs Y => ?_)
      refine lv_aload_n X.1 X.2.1 dX5_takeRoot_70 rfl (lv_at hl 3 rfl) ?_
      refine lv_aload_n X.1 X.2.1 dX5_takeRoot_71 rfl (lv_at hl 2 rfl) ?_
      refine lv_aload_n X.1 X.2.1 dX5_takeRoot_72 rfl (lv_at hl 0 rfl) ?_
      obtain ⟨v6, e7, hF⟩ := hp_b hF
      refine hp_getr X Y (C := RX5) (T := TX5) (N := 6) (ci := 5) (k := 3) rfl inX5_takeRoot_X5 (by decide) lkX5_takeRoot_f26 e7 dX5_takeRoot_73 ?_
      obtain ⟨v8, e9, hF⟩ := hp_b hF
      refine hp_getr X Y (C := RX1) (T := TX1) (N := 3) (ci := 1) (k := 0) rfl inX5_takeRoot_X1 (by decide) lkX5_takeRoot_f186 e9 dX5_takeRoot_76 ?_
      obtain ⟨h11, e10, hF⟩ := hp_b hF
      refine hp_cv Y (hp_runV X Y (ci := 2) (As := [.ref x2, .ref v8]) (n := 2) (T := TX2) (N := 2) (mX2_takeSum l G e10) rfl (oX2_takeSum e10) gX5_takeRoot_X2_takeSum rfl rfl rfl ndX2_takeSum ⟨Nat.le_of_ble_eq_true rfl, Nat.le_of_ble_eq_true rfl⟩ rfl hl.1 rfl (Nat.le_of_ble_eq_true rfl) dX5_takeRoot_79 ⟨Nat.zero_le _, Nat.zero_le _⟩) (fun H locs Y => ?_)
      refine lv_aload_n X.1 X.2.1 dX5_takeRoot_82 rfl (lv_at hl 3 rfl) ?_
      refine lv_aload_n X.1 X.2.1 dX5_takeRoot_83 rfl (lv_at hl 3 rfl) ?_
      refine lv_iconst (v := 1) X.1 X.2.1 dX5_takeRoot_84 (by decide) ?_
      obtain ⟨h13, e12, hF⟩ := hp_b hF
      refine hp_cv Y (hp_runV X Y (ci := 2) (As := [.ref x3, .int (1 : Int32)]) (n := 2) (T := TX2) (N := 2) (mX2_shiftDown l G e12) rfl (oX2_shiftDown e12) gX5_takeRoot_X2_shiftDown rfl rfl rfl ndX2_shiftDown ⟨Nat.le_of_ble_eq_true rfl, Nat.le_of_ble_eq_true rfl⟩ rfl hl.1 rfl (Nat.le_of_ble_eq_true rfl) dX5_takeRoot_85 ⟨Nat.zero_le _, Nat.zero_le _⟩) (fun H locs Y => ?_)
      refine lv_aload_n X.1 X.2.1 dX5_takeRoot_88 rfl (lv_at hl 3 rfl) ?_
      refine lv_aload_n X.1 X.2.1 dX5_takeRoot_89 rfl (lv_at hl 2 rfl) ?_
      obtain ⟨v15, e14, hF⟩ := hp_b hF
      refine hp_ci Y (hp_runV X Y (ci := 2) (As := [.ref x2]) (n := 1) (T := TX2) (N := 2) (mX2_order l G e14) rfl (oX2_order e14) gX5_takeRoot_X2_order rfl rfl rfl ndX2_order ⟨Nat.le_of_ble_eq_true rfl, Nat.le_of_ble_eq_true rfl⟩ rfl hl.1 rfl (Nat.le_of_ble_eq_true rfl) dX5_takeRoot_90 ⟨Nat.zero_le _, Nat.zero_le _⟩) (fun H locs Y => ?_)
      refine lv_if_lt (tgt := 97) X.1 X.2.1 dX5_takeRoot_93 (by decide) (fun c16 => ?_) (fun c16 => ?_)
      · have hF := hp_ifp (c16) hF
        refine lv_aload_n X.1 X.2.1 dX5_takeRoot_97 rfl (lv_at hl 2 rfl) ?_
        refine lv_aload_n X.1 X.2.1 dX5_takeRoot_98 rfl (lv_at hl 3 rfl) ?_
        obtain ⟨h18, e17, hF⟩ := hp_b hF
        refine hp_cv Y (hp_runV X Y (ci := 2) (As := [.ref x3]) (n := 1) (T := TX2) (N := 2) (mX2_take l G e17) rfl (oX2_take e17) gX5_takeRoot_X2_take rfl rfl rfl ndX2_take ⟨Nat.le_of_ble_eq_true rfl, Nat.le_of_ble_eq_true rfl⟩ rfl hl.1 rfl (Nat.le_of_ble_eq_true rfl) dX5_takeRoot_99 ⟨Nat.zero_le _, Nat.zero_le _⟩) (fun H locs Y => ?_)
        obtain ⟨v19, e20, hF⟩ := hp_b hF
        refine lv_iinc (v := v19) (lv' := [(4, .int v19), (0, .ref x0), (1, .ref x1), (2, .ref x2), (3, .ref x3)]) X.1 X.2.1 dX5_takeRoot_102 hl (k := 4) rfl (Option.some.inj e20) (by decide) rfl (fun ls hl => ?_)
        refine lv_goto (tgt := 53) X.1 X.2.1 dX5_takeRoot_105 (by decide) ?_
        exact ih Y (lv_sub hl [1, 2, 3, 4, 0] rfl) hF
      · have hF := hp_ifn (c16) hF
        cases hF
        exact hp_rv X Y rfl dX5_takeRoot_96
theorem oX5_takeRoot {x0 : Nat} {x1 : Nat} {h h' : hp_H}  (hF : fX5_takeRoot x0 x1 h = some h') : hp_o h x0 5 = true := by
  unfold fX5_takeRoot at hF
  exact (hp_ift hF).1
set_option maxRecDepth 100000 in
set_option maxHeartbeats 4000000 in
theorem mX5_takeRoot (l : Launch) (G : hp_G) {x0 : Nat} {x1 : Nat} {h h' : hp_H}  (hF : fX5_takeRoot x0 x1 h = some h') : Met l yX5_takeRoot wsX5_takeRoot rmX5_takeRoot (va_Pc [.ref x0, .ref x1] (hp_S G h)) (va_Qv (fun u => u = h') (hp_B G h) (hp_A h)) 0 0 (hp_A h) := by
  refine hp_met (cc := cX5_takeRoot) (nL := 5) (ret := none) (by decide) rfl ?_
  intro p e s m below meth c X Y
  have hl := lv_entry ([.ref x0, .ref x1]) (n := 5) (Nat.le_of_ble_eq_true rfl)
  rw [lg_entry_eq]
  generalize (lg_sl ([.ref x0, .ref x1]) ++ List.replicate (5 - (lg_sl ([.ref x0, .ref x1])).length) Slot.unset).toArray = ls at hl ⊢
  have hl : lv_has ls 5 [(0, .ref x0), (1, .ref x1)] := hl
  unfold fX5_takeRoot at hF
  obtain ⟨ho, hF⟩ := hp_ift hF
  refine lv_aload_n X.1 X.2.1 dX5_takeRoot_0 rfl (lv_at hl 0 rfl) ?_
  obtain ⟨v1, e2, hF⟩ := hp_b hF
  refine hp_getr X Y (C := RX5) (T := TX5) (N := 6) (ci := 5) (k := 1) rfl inX5_takeRoot_X5 (by decide) lkX5_takeRoot_f16 e2 dX5_takeRoot_1 ?_
  refine lv_lconst (v := 1) X.1 X.2.1 dX5_takeRoot_4 (by decide) ?_
  obtain ⟨h4, e3, hF⟩ := hp_b hF
  refine hp_cv Y (hp_runV X Y (ci := 4) (As := [.long (1 : Int64)]) (n := 1) (T := TX4) (N := 2) (mX4_takeLong l G e3) rfl (oX4_takeLong e3) gX5_takeRoot_X4_takeLong rfl rfl rfl ndX4_takeLong ⟨Nat.le_of_ble_eq_true rfl, Nat.le_of_ble_eq_true rfl⟩ rfl hl.1 rfl (Nat.le_of_ble_eq_true rfl) dX5_takeRoot_5 ⟨Nat.zero_le _, Nat.zero_le _⟩) (fun H locs Y => ?_)
  refine lv_aload_n X.1 X.2.1 dX5_takeRoot_8 rfl (lv_at hl 0 rfl) ?_
  obtain ⟨v5, e6, hF⟩ := hp_b hF
  refine hp_getr X Y (C := RX5) (T := TX5) (N := 6) (ci := 5) (k := 1) rfl inX5_takeRoot_X5 (by decide) lkX5_takeRoot_f16 e6 dX5_takeRoot_9 ?_
  obtain ⟨v7, e8, hF⟩ := hp_b hF
  refine hp_getr X Y (C := RX4) (T := TX4) (N := 2) (ci := 4) (k := 0) rfl inX5_takeRoot_X4 (by decide) lkX5_takeRoot_f72 e8 dX5_takeRoot_12 ?_
  refine lv_astore_n (lv' := [(2, .ref v7), (0, .ref x0), (1, .ref x1)]) X.1 X.2.1 dX5_takeRoot_15 rfl hl (by decide) rfl (fun ls hl => ?_)
  refine lv_aload_n X.1 X.2.1 dX5_takeRoot_16 rfl (lv_at hl 2 rfl) ?_
  obtain ⟨v10, e9, hF⟩ := hp_b hF
  refine hp_ci Y (hp_runV X Y (ci := 2) (As := []) (n := 0) (T := TX2) (N := 2) (mX2_isZero l G e9) rfl (oX2_isZero e9) gX5_takeRoot_X2_isZero rfl rfl rfl ndX2_isZero ⟨Nat.le_of_ble_eq_true rfl, Nat.le_of_ble_eq_true rfl⟩ rfl hl.1 rfl (Nat.le_of_ble_eq_true rfl) dX5_takeRoot_17 ⟨Nat.zero_le _, Nat.zero_le _⟩) (fun H locs Y => ?_)
  refine lv_if_eq (tgt := 29) X.1 X.2.1 dX5_takeRoot_20 (by decide) (fun c11 => ?_) (fun c11 => ?_)
  · have hF := hp_ifp (c11) hF
    refine lv_aload_n X.1 X.2.1 dX5_takeRoot_29 rfl (lv_at hl 0 rfl) ?_
    refine lv_aload_n X.1 X.2.1 dX5_takeRoot_30 rfl (lv_at hl 0 rfl) ?_
    refine lv_aload_n X.1 X.2.1 dX5_takeRoot_31 rfl (lv_at hl 2 rfl) ?_
    obtain ⟨v13, e12, hF⟩ := hp_b hF
    refine hp_ci Y (hp_runV X Y (ci := 2) (As := []) (n := 0) (T := TX2) (N := 2) (mX2_bitLength l G e12) rfl (oX2_bitLength e12) gX5_takeRoot_X2_bitLength rfl rfl rfl ndX2_bitLength ⟨Nat.le_of_ble_eq_true rfl, Nat.le_of_ble_eq_true rfl⟩ rfl hl.1 rfl (Nat.le_of_ble_eq_true rfl) dX5_takeRoot_32 ⟨Nat.zero_le _, Nat.zero_le _⟩) (fun H locs Y => ?_)
    refine lv_iconst (v := 1) X.1 X.2.1 dX5_takeRoot_35 (by decide) ?_
    refine lv_iadd X.1 X.2.1 dX5_takeRoot_36 ?_
    refine lv_iconst (v := 2) X.1 X.2.1 dX5_takeRoot_37 (by decide) ?_
    refine lv_idiv X.1 X.2.1 dX5_takeRoot_38 (by decide) ?_
    obtain ⟨h15, e14, hF⟩ := hp_b hF
    refine hp_cv Y (hp_runV X Y (ci := 2) (As := [.ref v7, .int ((v13 + (1 : Int32)) / (2 : Int32))]) (n := 2) (T := TX2) (N := 2) (mX2_shiftUp l G e14) rfl (oX2_shiftUp e14) gX5_takeRoot_X2_shiftUp rfl rfl rfl ndX2_shiftUp ⟨Nat.le_of_ble_eq_true rfl, Nat.le_of_ble_eq_true rfl⟩ rfl hl.1 rfl (Nat.le_of_ble_eq_true rfl) dX5_takeRoot_39 ⟨Nat.zero_le _, Nat.zero_le _⟩) (fun H locs Y => ?_)
    refine lv_aload_n X.1 X.2.1 dX5_takeRoot_42 rfl (lv_at hl 1 rfl) ?_
    obtain ⟨v16, e17, hF⟩ := hp_b hF
    refine hp_getr X Y (C := RX5) (T := TX5) (N := 6) (ci := 5) (k := 2) rfl inX5_takeRoot_X5 (by decide) lkX5_takeRoot_f20 e17 dX5_takeRoot_43 ?_
    obtain ⟨v18, e19, hF⟩ := hp_b hF
    refine hp_getr X Y (C := RX4) (T := TX4) (N := 2) (ci := 4) (k := 0) rfl inX5_takeRoot_X4 (by decide) lkX5_takeRoot_f72 e19 dX5_takeRoot_46 ?_
    refine lv_astore_n (lv' := [(3, .ref v18), (2, .ref v7), (0, .ref x0), (1, .ref x1)]) X.1 X.2.1 dX5_takeRoot_49 rfl hl (by decide) rfl (fun ls hl => ?_)
    refine lv_iconst (v := 0) X.1 X.2.1 dX5_takeRoot_50 (by decide) ?_
    refine lv_istore (lv' := [(4, .int (0 : Int32)), (3, .ref v18), (2, .ref v7), (0, .ref x0), (1, .ref x1)]) X.1 X.2.1 dX5_takeRoot_51 hl (by decide) rfl (fun ls hl => ?_)
    exact wX5_takeRoot_53 X  hp_n Y (lv_sub hl [3, 4, 2, 1, 0] rfl) hF
  · have hF := hp_ifn (c11) hF
    refine lv_aload_n X.1 X.2.1 dX5_takeRoot_23 rfl (lv_at hl 0 rfl) ?_
    refine lv_aload_n X.1 X.2.1 dX5_takeRoot_24 rfl (lv_at hl 2 rfl) ?_
    obtain ⟨h21, e20, hF⟩ := hp_b hF
    refine hp_cv Y (hp_runV X Y (ci := 2) (As := [.ref x1]) (n := 1) (T := TX2) (N := 2) (mX2_take l G e20) rfl (oX2_take e20) gX5_takeRoot_X2_take rfl rfl rfl ndX2_take ⟨Nat.le_of_ble_eq_true rfl, Nat.le_of_ble_eq_true rfl⟩ rfl hl.1 rfl (Nat.le_of_ble_eq_true rfl) dX5_takeRoot_25 ⟨Nat.zero_le _, Nat.zero_le _⟩) (fun H locs Y => ?_)
    cases hF
    exact hp_rv X Y rfl dX5_takeRoot_28
