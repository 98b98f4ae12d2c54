/-! WholeNumbers.divide -/
def rmX5_divide : Room := { frames := 5, cells := 0, slots := 0, locals := 126 }
def bX5_divide_107  (x0 : Nat) (x1 : Int32) (x2 : Int32)  (h : hp_H) : Option (Int32 × hp_H) :=
  (hp_gr h x0 5 0).bind fun v1 =>
  (hp_ar h v1 x1).bind fun v3 =>
  (hp_gr h x0 5 1).bind fun v5 =>
  (fX4_take v3 v5 h).bind fun h8 =>
  (hp_gr h8 x0 5 0).bind fun v9 =>
  (hp_ar h8 v9 x2).bind fun v11 =>
  (hp_gr h8 x0 5 2).bind fun v13 =>
  (fX4_take v11 v13 h8).bind fun h16 =>
  (hp_gr h16 x0 5 1).bind fun v17 =>
  (hp_gr h16 v17 4 0).bind fun v19 =>
  (fX2_bitLength v19 h16).bind fun v22 =>
  some (v22, h16)
def fX5_divide (x0 : Nat) (x1 : Int32) (x2 : Int32) (x3 : Int32) (x4 : Int32) (x5 : Int32) (h : hp_H) : Option (Int32 × hp_H) :=
  if hp_o h x0 5 = true then
  (fX5_isRegister x1).bind fun v2 =>
  if v2 = 0 then (
    some ((-1 : Int32), h))
  else (
    (fX5_areRegisters x2 x3 x4).bind fun v5 =>
    if v5 = 0 then (
      some ((-1 : Int32), h))
    else (
      if x1 = x2 then (
        some ((-1 : Int32), h))
      else (
        (hp_gr h x0 5 0).bind fun v8 =>
        (hp_ar h v8 x3).bind fun v10 =>
        (hp_gr h x0 5 0).bind fun v12 =>
        (hp_ar h v12 x4).bind fun v14 =>
        (hp_gr h v14 4 0).bind fun v16 =>
        (fX2_isZero v16 h).bind fun v19 =>
        if v19 = 0 then (
          (fX5_cutQuotient x0 v10 v14 h).bind fun h22 =>
          if x5 = 0 then (
            bX5_divide_107 x0 x1 x2 h22)
          else (
            (hp_gi h22 v10 4 1).bind fun v24 =>
            (hp_gi h22 v14 4 1).bind fun v26 =>
            if v24 = v26 then (
              bX5_divide_107 x0 x1 x2 h22)
            else (
              (hp_gr h22 x0 5 2).bind fun v29 =>
              (hp_gr h22 v29 4 0).bind fun v31 =>
              (fX2_isZero v31 h22).bind fun v34 =>
              if v34 = 0 then (
                (fX5_stepDown x0 v14 h22).bind fun h37 =>
                bX5_divide_107 x0 x1 x2 h37)
              else (
                bX5_divide_107 x0 x1 x2 h22))))
        else (
          none))))
  else none
theorem inX5_divide_X4 : ∀ w ∈ wsX40, w ∈ wsX5_divide := by decide +kernel
theorem inX5_divide_X5 : ∀ w ∈ wsX50, w ∈ wsX5_divide := by decide +kernel
theorem lkX5_divide_f11 : Cond.fieldLink RX5 11 (TX5 0).1 (TX5 0).2.1 (TX5 0).2.2.1 ∈ wsX5_divide := by decide +kernel
theorem lkX5_divide_f16 : Cond.fieldLink RX5 16 (TX5 1).1 (TX5 1).2.1 (TX5 1).2.2.1 ∈ wsX5_divide := by decide +kernel
theorem lkX5_divide_f20 : Cond.fieldLink RX5 20 (TX5 2).1 (TX5 2).2.1 (TX5 2).2.2.1 ∈ wsX5_divide := by decide +kernel
theorem lkX5_divide_f72 : Cond.fieldLink RX5 72 (TX4 0).1 (TX4 0).2.1 (TX4 0).2.2.1 ∈ wsX5_divide := by decide +kernel
theorem lkX5_divide_f56 : Cond.fieldLink RX5 56 (TX4 1).1 (TX4 1).2.1 (TX4 1).2.2.1 ∈ wsX5_divide := by decide +kernel
theorem ndX5_divide : yX5_divide.cls ≠ "java/lang/invoke/MethodHandle" ∧ yX5_divide.cls ≠ "java/lang/invoke/VarHandle" ∧ (parseMethodDescriptor yX5_divide.desc).map (fun d => d.parameters.length) = some 5 := by decide +kernel
set_option maxRecDepth 100000 in
set_option maxHeartbeats 4000000 in
theorem wX5_divide_107 {p : Program} {l : Launch} {e : Env} {s : State} {m : MethodId} {args : Array Value} {below : List Frame} {meth : Method} {c : Code} {G : hp_G} {h0 h' : hp_H} {r : Int32} (X : hp_X p s m args meth c cX5_divide 8 RX5 wsX5_divide (some .int) G)  {x0 : Nat} {x1 : Int32} {x2 : Int32}   {h : hp_H} {H : Heap} {locs : List Loc} {ls : Array Slot} (Y : hp_Y G h h0 s H locs) (hl : lv_has ls 8 [(0, .ref x0), (1, .int x1), (2, .int x2)]) (hF : bX5_divide_107 x0 x1 x2 h = some (r, h')) : W p l e rmX5_divide s m args below meth c H locs 0 0 (MQ below (va_Qi (fun r' u => r' = r ∧ u = h') (hp_B G h0) (hp_A h0)) args s 0 0 (hp_A h0)) (F0 m 107 ls []) := by
  unfold bX5_divide_107 at hF
  refine lv_aload_n X.1 X.2.1 dX5_divide_107 rfl (lv_at hl 0 rfl) ?_
  obtain ⟨v1, e2, hF⟩ := hp_b hF
  refine hp_getr X Y (C := RX5) (T := TX5) (N := 6) (ci := 5) (k := 0) rfl inX5_divide_X5 (by decide) lkX5_divide_f11 e2 dX5_divide_108 ?_
  refine lv_iload_n X.1 X.2.1 dX5_divide_111 rfl (lv_at hl 1 rfl) ?_
  obtain ⟨v3, e4, hF⟩ := hp_b hF
  refine hp_aald X Y e4 dX5_divide_112 ?_
  refine lv_aload_n X.1 X.2.1 dX5_divide_113 rfl (lv_at hl 0 rfl) ?_
  obtain ⟨v5, e6, hF⟩ := hp_b hF
  refine hp_getr X Y (C := RX5) (T := TX5) (N := 6) (ci := 5) (k := 1) rfl inX5_divide_X5 (by decide) lkX5_divide_f16 e6 dX5_divide_114 ?_
  obtain ⟨h8, e7, hF⟩ := hp_b hF
  refine hp_cv Y (hp_runV X Y (ci := 4) (As := [.ref v5]) (n := 1) (T := TX4) (N := 2) (mX4_take l G e7) rfl (oX4_take e7) gX5_divide_X4_take rfl rfl rfl ndX4_take ⟨Nat.le_of_ble_eq_true rfl, Nat.le_of_ble_eq_true rfl⟩ rfl hl.1 rfl (Nat.le_of_ble_eq_true rfl) dX5_divide_117 ⟨Nat.zero_le _, Nat.zero_le _⟩) (fun H locs Y => ?_)
  refine lv_aload_n X.1 X.2.1 dX5_divide_120 rfl (lv_at hl 0 rfl) ?_
  obtain ⟨v9, e10, hF⟩ := hp_b hF
  refine hp_getr X Y (C := RX5) (T := TX5) (N := 6) (ci := 5) (k := 0) rfl inX5_divide_X5 (by decide) lkX5_divide_f11 e10 dX5_divide_121 ?_
  refine lv_iload_n X.1 X.2.1 dX5_divide_124 rfl (lv_at hl 2 rfl) ?_
  obtain ⟨v11, e12, hF⟩ := hp_b hF
  refine hp_aald X Y e12 dX5_divide_125 ?_
  refine lv_aload_n X.1 X.2.1 dX5_divide_126 rfl (lv_at hl 0 rfl) ?_
  obtain ⟨v13, e14, hF⟩ := hp_b hF
  refine hp_getr X Y (C := RX5) (T := TX5) (N := 6) (ci := 5) (k := 2) rfl inX5_divide_X5 (by decide) lkX5_divide_f20 e14 dX5_divide_127 ?_
  obtain ⟨h16, e15, hF⟩ := hp_b hF
  refine hp_cv Y (hp_runV X Y (ci := 4) (As := [.ref v13]) (n := 1) (T := TX4) (N := 2) (mX4_take l G e15) rfl (oX4_take e15) gX5_divide_X4_take rfl rfl rfl ndX4_take ⟨Nat.le_of_ble_eq_true rfl, Nat.le_of_ble_eq_true rfl⟩ rfl hl.1 rfl (Nat.le_of_ble_eq_true rfl) dX5_divide_130 ⟨Nat.zero_le _, Nat.zero_le _⟩) (fun H locs Y => ?_)
  refine lv_aload_n X.1 X.2.1 dX5_divide_133 rfl (lv_at hl 0 rfl) ?_
  obtain ⟨v17, e18, hF⟩ := hp_b hF
  refine hp_getr X Y (C := RX5) (T := TX5) (N := 6) (ci := 5) (k := 1) rfl inX5_divide_X5 (by decide) lkX5_divide_f16 e18 dX5_divide_134 ?_
  obtain ⟨v19, e20, hF⟩ := hp_b hF
  refine hp_getr X Y (C := RX4) (T := TX4) (N := 2) (ci := 4) (k := 0) rfl inX5_divide_X4 (by decide) lkX5_divide_f72 e20 dX5_divide_137 ?_
  obtain ⟨v22, e21, hF⟩ := hp_b hF
  refine hp_ci Y (hp_runV X Y (ci := 2) (As := []) (n := 0) (T := TX2) (N := 2) (mX2_bitLength l G e21) rfl (oX2_bitLength e21) gX5_divide_X2_bitLength rfl rfl rfl ndX2_bitLength ⟨Nat.le_of_ble_eq_true rfl, Nat.le_of_ble_eq_true rfl⟩ rfl hl.1 rfl (Nat.le_of_ble_eq_true rfl) dX5_divide_140 ⟨Nat.zero_le _, Nat.zero_le _⟩) (fun H locs Y => ?_)
  cases hF
  exact hp_ri X Y rfl rfl dX5_divide_143
theorem oX5_divide {x0 : Nat} {x1 : Int32} {x2 : Int32} {x3 : Int32} {x4 : Int32} {x5 : Int32} {h h' : hp_H} {r : Int32} (hF : fX5_divide x0 x1 x2 x3 x4 x5 h = some (r, h')) : hp_o h x0 5 = true := by
  unfold fX5_divide at hF
  exact (hp_ift hF).1
set_option maxRecDepth 100000 in
set_option maxHeartbeats 4000000 in
theorem mX5_divide (l : Launch) (G : hp_G) {x0 : Nat} {x1 : Int32} {x2 : Int32} {x3 : Int32} {x4 : Int32} {x5 : Int32} {h h' : hp_H} {r : Int32} (hF : fX5_divide x0 x1 x2 x3 x4 x5 h = some (r, h')) : Met l yX5_divide wsX5_divide rmX5_divide (va_Pc [.ref x0, .int x1, .int x2, .int x3, .int x4, .int x5] (hp_S G h)) (va_Qi (fun r' u => r' = r ∧ u = h') (hp_B G h) (hp_A h)) 0 0 (hp_A h) := by
  refine hp_met (cc := cX5_divide) (nL := 8) (ret := (some .int)) (by decide) rfl ?_
  intro p e s m below meth c X Y
  have hl := lv_entry ([.ref x0, .int x1, .int x2, .int x3, .int x4, .int x5]) (n := 8) (Nat.le_of_ble_eq_true rfl)
  rw [lg_entry_eq]
  generalize (lg_sl ([.ref x0, .int x1, .int x2, .int x3, .int x4, .int x5]) ++ List.replicate (8 - (lg_sl ([.ref x0, .int x1, .int x2, .int x3, .int x4, .int x5])).length) Slot.unset).toArray = ls at hl ⊢
  have hl : lv_has ls 8 [(0, .ref x0), (1, .int x1), (2, .int x2), (3, .int x3), (4, .int x4), (5, .int x5)] := hl
  unfold fX5_divide at hF
  obtain ⟨ho, hF⟩ := hp_ift hF
  refine lv_iload_n X.1 X.2.1 dX5_divide_0 rfl (lv_at hl 1 rfl) ?_
  obtain ⟨v2, e1, hF⟩ := hp_b hF
  refine hp_ci Y (hp_runS X Y (As := [.int x1]) (n := 1) (mX5_isRegister l G e1) gX5_divide_X5_isRegister rfl rfl rfl ndX5_isRegister ⟨Nat.le_of_ble_eq_true rfl, Nat.le_of_ble_eq_true rfl⟩ rfl hl.1 rfl (Nat.le_of_ble_eq_true rfl) dX5_divide_1 ⟨Nat.zero_le _, Nat.zero_le _⟩) (fun H locs Y => ?_)
  refine lv_if_eq (tgt := 22) X.1 X.2.1 dX5_divide_4 (by decide) (fun c3 => ?_) (fun c3 => ?_)
  · have hF := hp_ifp (c3) hF
    refine lv_iconst (v := -1) X.1 X.2.1 dX5_divide_22 (by decide) ?_
    cases hF
    exact hp_ri X Y rfl rfl dX5_divide_23
  · have hF := hp_ifn (c3) hF
    refine lv_iload_n X.1 X.2.1 dX5_divide_7 rfl (lv_at hl 2 rfl) ?_
    refine lv_iload_n X.1 X.2.1 dX5_divide_8 rfl (lv_at hl 3 rfl) ?_
    refine lv_iload X.1 X.2.1 dX5_divide_9 (lv_at hl 4 rfl) ?_
    obtain ⟨v5, e4, hF⟩ := hp_b hF
    refine hp_ci Y (hp_runS X Y (As := [.int x2, .int x3, .int x4]) (n := 3) (mX5_areRegisters l G e4) gX5_divide_X5_areRegisters rfl rfl rfl ndX5_areRegisters ⟨Nat.le_of_ble_eq_true rfl, Nat.le_of_ble_eq_true rfl⟩ rfl hl.1 rfl (Nat.le_of_ble_eq_true rfl) dX5_divide_11 ⟨Nat.zero_le _, Nat.zero_le _⟩) (fun H locs Y => ?_)
    refine lv_if_eq (tgt := 22) X.1 X.2.1 dX5_divide_14 (by decide) (fun c6 => ?_) (fun c6 => ?_)
    · have hF := hp_ifp (c6) hF
      refine lv_iconst (v := -1) X.1 X.2.1 dX5_divide_22 (by decide) ?_
      cases hF
      exact hp_ri X Y rfl rfl dX5_divide_23
    · have hF := hp_ifn (c6) hF
      refine lv_iload_n X.1 X.2.1 dX5_divide_17 rfl (lv_at hl 1 rfl) ?_
      refine lv_iload_n X.1 X.2.1 dX5_divide_18 rfl (lv_at hl 2 rfl) ?_
      refine lv_icmp_ne (tgt := 24) X.1 X.2.1 dX5_divide_19 (by decide) (fun c7 => ?_) (fun c7 => ?_)
      · have hF := hp_ifn (c7) hF
        refine lv_aload_n X.1 X.2.1 dX5_divide_24 rfl (lv_at hl 0 rfl) ?_
        obtain ⟨v8, e9, hF⟩ := hp_b hF
        refine hp_getr X Y (C := RX5) (T := TX5) (N := 6) (ci := 5) (k := 0) rfl inX5_divide_X5 (by decide) lkX5_divide_f11 e9 dX5_divide_25 ?_
        refine lv_iload_n X.1 X.2.1 dX5_divide_28 rfl (lv_at hl 3 rfl) ?_
        obtain ⟨v10, e11, hF⟩ := hp_b hF
        refine hp_aald X Y e11 dX5_divide_29 ?_
        refine lv_astore (lv' := [(6, .ref v10), (0, .ref x0), (1, .int x1), (2, .int x2), (3, .int x3), (4, .int x4), (5, .int x5)]) X.1 X.2.1 dX5_divide_30 hl (by decide) rfl (fun ls hl => ?_)
        refine lv_aload_n X.1 X.2.1 dX5_divide_32 rfl (lv_at hl 1 rfl) ?_
        obtain ⟨v12, e13, hF⟩ := hp_b hF
        refine hp_getr X Y (C := RX5) (T := TX5) (N := 6) (ci := 5) (k := 0) rfl inX5_divide_X5 (by decide) lkX5_divide_f11 e13 dX5_divide_33 ?_
        refine lv_iload X.1 X.2.1 dX5_divide_36 (lv_at hl 5 rfl) ?_
        obtain ⟨v14, e15, hF⟩ := hp_b hF
        refine hp_aald X Y e15 dX5_divide_38 ?_
        refine lv_astore (lv' := [(7, .ref v14), (6, .ref v10), (0, .ref x0), (1, .int x1), (2, .int x2), (3, .int x3), (4, .int x4), (5, .int x5)]) X.1 X.2.1 dX5_divide_39 hl (by decide) rfl (fun ls hl => ?_)
        refine lv_aload X.1 X.2.1 dX5_divide_41 (lv_at hl 0 rfl) ?_
        obtain ⟨v16, e17, hF⟩ := hp_b hF
        refine hp_getr X Y (C := RX4) (T := TX4) (N := 2) (ci := 4) (k := 0) rfl inX5_divide_X4 (by decide) lkX5_divide_f72 e17 dX5_divide_43 ?_
        obtain ⟨v19, e18, hF⟩ := hp_b hF
        refine hp_ci Y (hp_runV X Y (ci := 2) (As := []) (n := 0) (T := TX2) (N := 2) (mX2_isZero l G e18) rfl (oX2_isZero e18) gX5_divide_X2_isZero rfl rfl rfl ndX2_isZero ⟨Nat.le_of_ble_eq_true rfl, Nat.le_of_ble_eq_true rfl⟩ rfl hl.1 rfl (Nat.le_of_ble_eq_true rfl) dX5_divide_46 ⟨Nat.zero_le _, Nat.zero_le _⟩) (fun H locs Y => ?_)
        refine lv_if_eq (tgt := 62) X.1 X.2.1 dX5_divide_49 (by decide) (fun c20 => ?_) (fun c20 => ?_)
        · have hF := hp_ifp (c20) hF
          refine lv_aload_n X.1 X.2.1 dX5_divide_62 rfl (lv_at hl 2 rfl) ?_
          refine lv_aload X.1 X.2.1 dX5_divide_63 (lv_at hl 1 rfl) ?_
          refine lv_aload X.1 X.2.1 dX5_divide_65 (lv_at hl 0 rfl) ?_
          obtain ⟨h22, e21, hF⟩ := hp_b hF
          refine hp_cv Y (hp_runV X Y (ci := 5) (As := [.ref v10, .ref v14]) (n := 2) (T := TX5) (N := 6) (mX5_cutQuotient l G e21) rfl (oX5_cutQuotient e21) gX5_divide_X5_cutQuotient rfl rfl rfl ndX5_cutQuotient ⟨Nat.le_of_ble_eq_true rfl, Nat.le_of_ble_eq_true rfl⟩ rfl hl.1 rfl (Nat.le_of_ble_eq_true rfl) dX5_divide_67 ⟨Nat.zero_le _, Nat.zero_le _⟩) (fun H locs Y => ?_)
          refine lv_iload X.1 X.2.1 dX5_divide_70 (lv_at hl 7 rfl) ?_
          refine lv_if_eq (tgt := 107) X.1 X.2.1 dX5_divide_72 (by decide) (fun c23 => ?_) (fun c23 => ?_)
          · have hF := hp_ifp (c23) hF
            exact wX5_divide_107 X  Y (lv_sub hl [2, 3, 4] rfl) hF
          · have hF := hp_ifn (c23) hF
            refine lv_aload X.1 X.2.1 dX5_divide_75 (lv_at hl 1 rfl) ?_
            obtain ⟨v24, e25, hF⟩ := hp_b hF
            refine hp_geti X Y (C := RX4) (T := TX4) (N := 2) (ci := 4) (k := 1) rfl inX5_divide_X4 (by decide) lkX5_divide_f56 e25 dX5_divide_77 ?_
            refine lv_aload X.1 X.2.1 dX5_divide_80 (lv_at hl 0 rfl) ?_
            obtain ⟨v26, e27, hF⟩ := hp_b hF
            refine hp_geti X Y (C := RX4) (T := TX4) (N := 2) (ci := 4) (k := 1) rfl inX5_divide_X4 (by decide) lkX5_divide_f56 e27 dX5_divide_82 ?_
            refine lv_icmp_eq (tgt := 107) X.1 X.2.1 dX5_divide_85 (by decide) (fun c28 => ?_) (fun c28 => ?_)
            · have hF := hp_ifp (c28) hF
              exact wX5_divide_107 X  Y (lv_sub hl [2, 3, 4] rfl) hF
            · have hF := hp_ifn (c28) hF
              refine lv_aload_n X.1 X.2.1 dX5_divide_88 rfl (lv_at hl 2 rfl) ?_
              obtain ⟨v29, e30, hF⟩ := hp_b hF
              refine hp_getr X Y (C := RX5) (T := TX5) (N := 6) (ci := 5) (k := 2) rfl inX5_divide_X5 (by decide) lkX5_divide_f20 e30 dX5_divide_89 ?_
              obtain ⟨v31, e32, hF⟩ := hp_b hF
              refine hp_getr X Y (C := RX4) (T := TX4) (N := 2) (ci := 4) (k := 0) rfl inX5_divide_X4 (by decide) lkX5_divide_f72 e32 dX5_divide_92 ?_
              obtain ⟨v34, e33, hF⟩ := hp_b hF
              refine hp_ci Y (hp_runV X Y (ci := 2) (As := []) (n := 0) (T := TX2) (N := 2) (mX2_isZero l G e33) rfl (oX2_isZero e33) gX5_divide_X2_isZero rfl rfl rfl ndX2_isZero ⟨Nat.le_of_ble_eq_true rfl, Nat.le_of_ble_eq_true rfl⟩ rfl hl.1 rfl (Nat.le_of_ble_eq_true rfl) dX5_divide_95 ⟨Nat.zero_le _, Nat.zero_le _⟩) (fun H locs Y => ?_)
              refine lv_if_ne (tgt := 107) X.1 X.2.1 dX5_divide_98 (by decide) (fun c35 => ?_) (fun c35 => ?_)
              · have hF := hp_ifn (c35) hF
                exact wX5_divide_107 X  Y (lv_sub hl [2, 3, 4] rfl) hF
              · have hF := hp_ifp (c35) hF
                refine lv_aload_n X.1 X.2.1 dX5_divide_101 rfl (lv_at hl 2 rfl) ?_
                refine lv_aload X.1 X.2.1 dX5_divide_102 (lv_at hl 0 rfl) ?_
                obtain ⟨h37, e36, hF⟩ := hp_b hF
                refine hp_cv Y (hp_runV X Y (ci := 5) (As := [.ref v14]) (n := 1) (T := TX5) (N := 6) (mX5_stepDown l G e36) rfl (oX5_stepDown e36) gX5_divide_X5_stepDown rfl rfl rfl ndX5_stepDown ⟨Nat.le_of_ble_eq_true rfl, Nat.le_of_ble_eq_true rfl⟩ rfl hl.1 rfl (Nat.le_of_ble_eq_true rfl) dX5_divide_104 ⟨Nat.zero_le _, Nat.zero_le _⟩) (fun H locs Y => ?_)
                exact wX5_divide_107 X  Y (lv_sub hl [2, 3, 4] rfl) hF
        · have hF := hp_ifn (c20) hF
          cases hF
      · have hF := hp_ifp (c7) hF
        refine lv_iconst (v := -1) X.1 X.2.1 dX5_divide_22 (by decide) ?_
        cases hF
        exact hp_ri X Y rfl rfl dX5_divide_23

/-! WholeNumbers.root -/
def rmX5_root : Room := { frames := 5, cells := 0, slots := 0, locals := 128 }
def fX5_root (x0 : Nat) (x1 : Int32) (x2 : Int32) (h : hp_H) : Option (Int32 × hp_H) :=
  if hp_o h x0 5 = true then
  (fX5_isRegister x1).bind fun v2 =>
  if v2 = 0 then (
    some ((-1 : Int32), h))
  else (
    (fX5_isRegister x2).bind fun v5 =>
    if v5 = 0 then (
      some ((-1 : Int32), h))
    else (
      (hp_gr h x0 5 0).bind fun v7 =>
      (hp_ar h v7 x2).bind fun v9 =>
      (hp_gi h v9 4 1).bind fun v11 =>
      if v11 = 0 then (
        (hp_gr h x0 5 0).bind fun v14 =>
        (hp_ar h v14 x2).bind fun v16 =>
        (hp_gr h v16 4 0).bind fun v18 =>
        (fX5_takeRoot x0 v18 h).bind fun h21 =>
        (fX5_keepResult x0 x1 h21).bind fun (v24, h23) =>
        some (v24, h23))
      else (
        none)))
  else none
theorem inX5_root_X4 : ∀ w ∈ wsX40, w ∈ wsX5_root := by decide +kernel
theorem inX5_root_X5 : ∀ w ∈ wsX50, w ∈ wsX5_root := by decide +kernel
theorem lkX5_root_f11 : Cond.fieldLink RX5 11 (TX5 0).1 (TX5 0).2.1 (TX5 0).2.2.1 ∈ wsX5_root := by decide +kernel
theorem lkX5_root_f56 : Cond.fieldLink RX5 56 (TX4 1).1 (TX4 1).2.1 (TX4 1).2.2.1 ∈ wsX5_root := by decide +kernel
theorem lkX5_root_f72 : Cond.fieldLink RX5 72 (TX4 0).1 (TX4 0).2.1 (TX4 0).2.2.1 ∈ wsX5_root := by decide +kernel
theorem ndX5_root : yX5_root.cls ≠ "java/lang/invoke/MethodHandle" ∧ yX5_root.cls ≠ "java/lang/invoke/VarHandle" ∧ (parseMethodDescriptor yX5_root.desc).map (fun d => d.parameters.length) = some 2 := by decide +kernel
theorem oX5_root {x0 : Nat} {x1 : Int32} {x2 : Int32} {h h' : hp_H} {r : Int32} (hF : fX5_root x0 x1 x2 h = some (r, h')) : hp_o h x0 5 = true := by
  unfold fX5_root at hF
  exact (hp_ift hF).1
set_option maxRecDepth 100000 in
set_option maxHeartbeats 4000000 in
theorem mX5_root (l : Launch) (G : hp_G) {x0 : Nat} {x1 : Int32} {x2 : Int32} {h h' : hp_H} {r : Int32} (hF : fX5_root x0 x1 x2 h = some (r, h')) : Met l yX5_root wsX5_root rmX5_root (va_Pc [.ref x0, .int x1, .int x2] (hp_S G h)) (va_Qi (fun r' u => r' = r ∧ u = h') (hp_B G h) (hp_A h)) 0 0 (hp_A h) := by
  refine hp_met (cc := cX5_root) (nL := 3) (ret := (some .int)) (by decide) rfl ?_
  intro p e s m below meth c X Y
  have hl := lv_entry ([.ref x0, .int x1, .int x2]) (n := 3) (Nat.le_of_ble_eq_true rfl)
  rw [lg_entry_eq]
  generalize (lg_sl ([.ref x0, .int x1, .int x2]) ++ List.replicate (3 - (lg_sl ([.ref x0, .int x1, .int x2])).length) Slot.unset).toArray = ls at hl ⊢
  have hl : lv_has ls 3 [(0, .ref x0), (1, .int x1), (2, .int x2)] := hl
  unfold fX5_root at hF
  obtain ⟨ho, hF⟩ := hp_ift hF
  refine lv_iload_n X.1 X.2.1 dX5_root_0 rfl (lv_at hl 1 rfl) ?_
  obtain ⟨v2, e1, hF⟩ := hp_b hF
  refine hp_ci Y (hp_runS X Y (As := [.int x1]) (n := 1) (mX5_isRegister l G e1) gX5_root_X5_isRegister rfl rfl rfl ndX5_isRegister ⟨Nat.le_of_ble_eq_true rfl, Nat.le_of_ble_eq_true rfl⟩ rfl hl.1 rfl (Nat.le_of_ble_eq_true rfl) dX5_root_1 ⟨Nat.zero_le _, Nat.zero_le _⟩) (fun H locs Y => ?_)
  refine lv_if_eq (tgt := 14) X.1 X.2.1 dX5_root_4 (by decide) (fun c3 => ?_) (fun c3 => ?_)
  · have hF := hp_ifp (c3) hF
    refine lv_iconst (v := -1) X.1 X.2.1 dX5_root_14 (by decide) ?_
    cases hF
    exact hp_ri X Y rfl rfl dX5_root_15
  · have hF := hp_ifn (c3) hF
    refine lv_iload_n X.1 X.2.1 dX5_root_7 rfl (lv_at hl 2 rfl) ?_
    obtain ⟨v5, e4, hF⟩ := hp_b hF
    refine hp_ci Y (hp_runS X Y (As := [.int x2]) (n := 1) (mX5_isRegister l G e4) gX5_root_X5_isRegister rfl rfl rfl ndX5_isRegister ⟨Nat.le_of_ble_eq_true rfl, Nat.le_of_ble_eq_true rfl⟩ rfl hl.1 rfl (Nat.le_of_ble_eq_true rfl) dX5_root_8 ⟨Nat.zero_le _, Nat.zero_le _⟩) (fun H locs Y => ?_)
    refine lv_if_ne (tgt := 16) X.1 X.2.1 dX5_root_11 (by decide) (fun c6 => ?_) (fun c6 => ?_)
    · have hF := hp_ifn (c6) hF
      refine lv_aload_n X.1 X.2.1 dX5_root_16 rfl (lv_at hl 0 rfl) ?_
      obtain ⟨v7, e8, hF⟩ := hp_b hF
      refine hp_getr X Y (C := RX5) (T := TX5) (N := 6) (ci := 5) (k := 0) rfl inX5_root_X5 (by decide) lkX5_root_f11 e8 dX5_root_17 ?_
      refine lv_iload_n X.1 X.2.1 dX5_root_20 rfl (lv_at hl 2 rfl) ?_
      obtain ⟨v9, e10, hF⟩ := hp_b hF
      refine hp_aald X Y e10 dX5_root_21 ?_
      obtain ⟨v11, e12, hF⟩ := hp_b hF
      refine hp_geti X Y (C := RX4) (T := TX4) (N := 2) (ci := 4) (k := 1) rfl inX5_root_X4 (by decide) lkX5_root_f56 e12 dX5_root_22 ?_
      refine lv_if_eq (tgt := 38) X.1 X.2.1 dX5_root_25 (by decide) (fun c13 => ?_) (fun c13 => ?_)
      · have hF := hp_ifp (c13) hF
        refine lv_aload_n X.1 X.2.1 dX5_root_38 rfl (lv_at hl 0 rfl) ?_
        refine lv_aload_n X.1 X.2.1 dX5_root_39 rfl (lv_at hl 0 rfl) ?_
        obtain ⟨v14, e15, hF⟩ := hp_b hF
        refine hp_getr X Y (C := RX5) (T := TX5) (N := 6) (ci := 5) (k := 0) rfl inX5_root_X5 (by decide) lkX5_root_f11 e15 dX5_root_40 ?_
        refine lv_iload_n X.1 X.2.1 dX5_root_43 rfl (lv_at hl 2 rfl) ?_
        obtain ⟨v16, e17, hF⟩ := hp_b hF
        refine hp_aald X Y e17 dX5_root_44 ?_
        obtain ⟨v18, e19, hF⟩ := hp_b hF
        refine hp_getr X Y (C := RX4) (T := TX4) (N := 2) (ci := 4) (k := 0) rfl inX5_root_X4 (by decide) lkX5_root_f72 e19 dX5_root_45 ?_
        obtain ⟨h21, e20, hF⟩ := hp_b hF
        refine hp_cv Y (hp_runV X Y (ci := 5) (As := [.ref v18]) (n := 1) (T := TX5) (N := 6) (mX5_takeRoot l G e20) rfl (oX5_takeRoot e20) gX5_root_X5_takeRoot rfl rfl rfl ndX5_takeRoot ⟨Nat.le_of_ble_eq_true rfl, Nat.le_of_ble_eq_true rfl⟩ rfl hl.1 rfl (Nat.le_of_ble_eq_true rfl) dX5_root_48 ⟨Nat.zero_le _, Nat.zero_le _⟩) (fun H locs Y => ?_)
        refine lv_aload_n X.1 X.2.1 dX5_root_51 rfl (lv_at hl 0 rfl) ?_
        refine lv_iload_n X.1 X.2.1 dX5_root_52 rfl (lv_at hl 1 rfl) ?_
        obtain ⟨⟨v24, h23⟩, e22, hF⟩ := hp_b hF
        refine hp_ci Y (hp_runV X Y (ci := 5) (As := [.int x1]) (n := 1) (T := TX5) (N := 6) (mX5_keepResult l G e22) rfl (oX5_keepResult e22) gX5_root_X5_keepResult rfl rfl rfl ndX5_keepResult ⟨Nat.le_of_ble_eq_true rfl, Nat.le_of_ble_eq_true rfl⟩ rfl hl.1 rfl (Nat.le_of_ble_eq_true rfl) dX5_root_53 ⟨Nat.zero_le _, Nat.zero_le _⟩) (fun H locs Y => ?_)
        cases hF
        exact hp_ri X Y rfl rfl dX5_root_56
      · have hF := hp_ifn (c13) hF
        cases hF
    · have hF := hp_ifp (c6) hF
      refine lv_iconst (v := -1) X.1 X.2.1 dX5_root_14 (by decide) ?_
      cases hF
      exact hp_ri X Y rfl rfl dX5_root_15
