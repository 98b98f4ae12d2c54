/-! WholeNumbersModel.reckon -/
def rmX6_reckon : Room := { frames := 4, cells := 0, slots := 0, locals := 93 }
def bX6_reckon_115  (x0 : Nat) (x2 : Int32) (t0 : Nat) (t1 : Int32) (t2 : Int32) (h : hp_H) : Option (Int32 × hp_H) :=
  (fX6_sum t0 t1 t2 h).bind fun (v3, h2) =>
  (hp_gr h2 x0 6 5).bind fun v5 =>
  (hp_gi h2 x0 6 8).bind fun v7 =>
  (fX6_put x0 x2 v5 v7 v3 h2).bind fun (v11, h10) =>
  some (v11, h10)
def fX6_reckon (x0 : Nat) (x1 : Int32) (x2 : Int32) (x3 : Int32) (x4 : Int32) (h : hp_H) : Option (Int32 × hp_H) :=
  if hp_o h x0 6 = true then
  (hp_pv h x0 6 11 (.int (0 : Int32))).bind fun h1 =>
  if x1 < 0 then (
    some ((-1 : Int32), h1))
  else (
    if (2 : Int32) < x1 then (
      some ((-1 : Int32), h1))
    else (
      (fX6_isRegister x2).bind fun v6 =>
      if v6 = 0 then (
        some ((-1 : Int32), h1))
      else (
        (fX6_isRegister x3).bind fun v9 =>
        if v9 = 0 then (
          some ((-1 : Int32), h1))
        else (
          (fX6_isRegister x4).bind fun v12 =>
          if v12 = 0 then (
            some ((-1 : Int32), h1))
          else (
            (fX6_toX x0 x3 h1).bind fun h15 =>
            (fX6_toY x0 x4 h15).bind fun h17 =>
            if x1 = (2 : Int32) then (
              (fX6_multiply x0 h17).bind fun h33 =>
              (hp_gr h33 x0 6 7).bind fun v34 =>
              (hp_gi h33 x0 6 10).bind fun v36 =>
              (hp_gr h33 x0 6 2).bind fun v38 =>
              (hp_ai h33 0 v38 x3).bind fun v40 =>
              (hp_gr h33 x0 6 2).bind fun v42 =>
              (hp_ai h33 0 v42 x4).bind fun v44 =>
              (fX6_put x0 x2 v34 v36 (v40 * v44) h33).bind fun (v48, h47) =>
              some (v48, h47))
            else (
              (hp_gr h17 x0 6 2).bind fun v19 =>
              (hp_ai h17 0 v19 x3).bind fun v21 =>
              if x1 = 0 then (
                (hp_gr h17 x0 6 2).bind fun v28 =>
                (hp_ai h17 0 v28 x4).bind fun v30 =>
                bX6_reckon_115 x0 x2 x0 v21 v30 h17)
              else (
                (hp_gr h17 x0 6 2).bind fun v24 =>
                (hp_ai h17 0 v24 x4).bind fun v26 =>
                bX6_reckon_115 x0 x2 x0 v21 (-v26) h17)))))))
  else none
theorem inX6_reckon_X6 : ∀ w ∈ wsX60, w ∈ wsX6_reckon := by decide +kernel
theorem lkX6_reckon_f22 : Cond.fieldLink RX6 22 (TX6 5).1 (TX6 5).2.1 (TX6 5).2.2.1 ∈ wsX6_reckon := by decide +kernel
theorem lkX6_reckon_f34 : Cond.fieldLink RX6 34 (TX6 8).1 (TX6 8).2.1 (TX6 8).2.2.1 ∈ wsX6_reckon := by decide +kernel
theorem lkX6_reckon_f45 : Cond.fieldLink RX6 45 (TX6 11).1 (TX6 11).2.1 (TX6 11).2.2.1 ∈ wsX6_reckon := by decide +kernel
theorem lkX6_reckon_f16 : Cond.fieldLink RX6 16 (TX6 2).1 (TX6 2).2.1 (TX6 2).2.2.1 ∈ wsX6_reckon := by decide +kernel
theorem lkX6_reckon_f28 : Cond.fieldLink RX6 28 (TX6 7).1 (TX6 7).2.1 (TX6 7).2.2.1 ∈ wsX6_reckon := by decide +kernel
theorem lkX6_reckon_f89 : Cond.fieldLink RX6 89 (TX6 10).1 (TX6 10).2.1 (TX6 10).2.2.1 ∈ wsX6_reckon := by decide +kernel
theorem ndX6_reckon : yX6_reckon.cls ≠ "java/lang/invoke/MethodHandle" ∧ yX6_reckon.cls ≠ "java/lang/invoke/VarHandle" ∧ (parseMethodDescriptor yX6_reckon.desc).map (fun d => d.parameters.length) = some 4 := by decide +kernel
set_option maxRecDepth 100000 in
set_option maxHeartbeats 4000000 in
theorem wX6_reckon_115 {p : Program} {l : Launch} {e : Env} {s : State} {m : MethodId} {args : Array Value} {below : List Frame} {meth : Method} {c : Code} {G : hp_G} {h0 h' : hp_H} {r : Int32} (X : hp_X p s m args meth c cX6_reckon 6 RX6 wsX6_reckon (some .int) G)  {x0 : Nat} {x2 : Int32}   {t0 : Nat} {t1 : Int32} {t2 : Int32} {h : hp_H} {H : Heap} {locs : List Loc} {ls : Array Slot} (Y : hp_Y G h h0 s H locs) (hl : lv_has ls 6 [(0, .ref x0), (2, .int x2)]) (hF : bX6_reckon_115 x0 x2 t0 t1 t2 h = some (r, h')) : W p l e rmX6_reckon s m args below meth c H locs 0 0 (MQ below (va_Qi (fun r' u => r' = r ∧ u = h') (hp_B G h0) (hp_A h0)) args s 0 0 (hp_A h0)) (F0 m 115 ls [.int t2, .int t1, .ref t0]) := by
  unfold bX6_reckon_115 at hF
  obtain ⟨⟨v3, h2⟩, e1, hF⟩ := hp_b hF
  refine hp_ci Y (hp_runV X Y (ci := 6) (As := [.int t1, .int t2]) (n := 2) (T := TX6) (N := 14) (mX6_sum l G e1) rfl (oX6_sum e1) gX6_reckon_X6_sum rfl rfl rfl ndX6_sum ⟨Nat.le_of_ble_eq_true rfl, Nat.le_of_ble_eq_true rfl⟩ rfl hl.1 rfl (Nat.le_of_ble_eq_true rfl) dX6_reckon_115 ⟨Nat.zero_le _, Nat.zero_le _⟩) (fun H locs Y => ?_)
  refine lv_istore (lv' := [(5, .int v3), (0, .ref x0), (2, .int x2)]) X.1 X.2.1 dX6_reckon_118 hl (by decide) rfl (fun ls hl => ?_)
  refine lv_aload_n X.1 X.2.1 dX6_reckon_120 rfl (lv_at hl 1 rfl) ?_
  refine lv_iload_n X.1 X.2.1 dX6_reckon_121 rfl (lv_at hl 2 rfl) ?_
  refine lv_aload_n X.1 X.2.1 dX6_reckon_122 rfl (lv_at hl 1 rfl) ?_
  obtain ⟨v5, e6, hF⟩ := hp_b hF
  refine hp_getr X Y (C := RX6) (T := TX6) (N := 14) (ci := 6) (k := 5) rfl inX6_reckon_X6 (by decide) lkX6_reckon_f22 e6 dX6_reckon_123 ?_
  refine lv_aload_n X.1 X.2.1 dX6_reckon_126 rfl (lv_at hl 1 rfl) ?_
  obtain ⟨v7, e8, hF⟩ := hp_b hF
  refine hp_geti X Y (C := RX6) (T := TX6) (N := 14) (ci := 6) (k := 8) rfl inX6_reckon_X6 (by decide) lkX6_reckon_f34 e8 dX6_reckon_127 ?_
  refine lv_iload X.1 X.2.1 dX6_reckon_130 (lv_at hl 0 rfl) ?_
  obtain ⟨⟨v11, h10⟩, e9, hF⟩ := hp_b hF
  refine hp_ci Y (hp_runV X Y (ci := 6) (As := [.int x2, .ref v5, .int v7, .int v3]) (n := 4) (T := TX6) (N := 14) (mX6_put l G e9) rfl (oX6_put e9) gX6_reckon_X6_put rfl rfl rfl ndX6_put ⟨Nat.le_of_ble_eq_true rfl, Nat.le_of_ble_eq_true rfl⟩ rfl hl.1 rfl (Nat.le_of_ble_eq_true rfl) dX6_reckon_132 ⟨Nat.zero_le _, Nat.zero_le _⟩) (fun H locs Y => ?_)
  cases hF
  exact hp_ri X Y rfl rfl dX6_reckon_135
theorem oX6_reckon {x0 : Nat} {x1 : Int32} {x2 : Int32} {x3 : Int32} {x4 : Int32} {h h' : hp_H} {r : Int32} (hF : fX6_reckon x0 x1 x2 x3 x4 h = some (r, h')) : hp_o h x0 6 = true := by
  unfold fX6_reckon at hF
  exact (hp_ift hF).1
set_option maxRecDepth 100000 in
set_option maxHeartbeats 4000000 in
theorem mX6_reckon (l : Launch) (G : hp_G) {x0 : Nat} {x1 : Int32} {x2 : Int32} {x3 : Int32} {x4 : Int32} {h h' : hp_H} {r : Int32} (hF : fX6_reckon x0 x1 x2 x3 x4 h = some (r, h')) : Met l yX6_reckon wsX6_reckon rmX6_reckon (va_Pc [.ref x0, .int x1, .int x2, .int x3, .int x4] (hp_S G h)) (va_Qi (fun r' u => r' = r ∧ u = h') (hp_B G h) (hp_A h)) 0 0 (hp_A h) := by
  refine hp_met (cc := cX6_reckon) (nL := 6) (ret := (some .int)) (by decide) rfl ?_
  intro p e s m below meth c X Y
  have hl := lv_entry ([.ref x0, .int x1, .int x2, .int x3, .int x4]) (n := 6) (Nat.le_of_ble_eq_true rfl)
  rw [lg_entry_eq]
  generalize (lg_sl ([.ref x0, .int x1, .int x2, .int x3, .int x4]) ++ List.replicate (6 - (lg_sl ([.ref x0, .int x1, .int x2, .int x3, .int x4])).length) Slot.unset).toArray = ls at hl ⊢
  have hl : lv_has ls 6 [(0, .ref x0), (1, .int x1), (2, .int x2), (3, .int x3), (4, .int x4)] := hl
  unfold fX6_reckon at hF
  obtain ⟨ho, hF⟩ := hp_ift hF
  refine lv_aload_n X.1 X.2.1 dX6_reckon_0 rfl (lv_at hl 0 rfl) ?_
  refine lv_iconst (v := 0) X.1 X.2.1 dX6_reckon_1 (by decide) ?_
  obtain ⟨h1, e2, hF⟩ := hp_b hF
  refine hp_put X Y (C := RX6) (T := TX6) (N := 14) (ci := 6) (k := 11) (ty0 := tyX6) rfl inX6_reckon_X6 tyX6_ok nmX6 (by decide) lkX6_reckon_f45 rfl rfl rfl e2 dX6_reckon_2 (fun H locs Y => ?_)
  refine lv_iload_n X.1 X.2.1 dX6_reckon_5 rfl (lv_at hl 1 rfl) ?_
  refine lv_if_lt (tgt := 36) X.1 X.2.1 dX6_reckon_6 (by decide) (fun c3 => ?_) (fun c3 => ?_)
  · have hF := hp_ifp (c3) hF
    refine lv_iconst (v := -1) X.1 X.2.1 dX6_reckon_36 (by decide) ?_
    cases hF
    exact hp_ri X Y rfl rfl dX6_reckon_37
  · have hF := hp_ifn (c3) hF
    refine lv_iload_n X.1 X.2.1 dX6_reckon_9 rfl (lv_at hl 1 rfl) ?_
    refine lv_iconst (v := 2) X.1 X.2.1 dX6_reckon_10 (by decide) ?_
    refine lv_icmp_gt (tgt := 36) X.1 X.2.1 dX6_reckon_11 (by decide) (fun c4 => ?_) (fun c4 => ?_)
    · have hF := hp_ifp (c4) hF
      refine lv_iconst (v := -1) X.1 X.2.1 dX6_reckon_36 (by decide) ?_
      cases hF
      exact hp_ri X Y rfl rfl dX6_reckon_37
    · have hF := hp_ifn (c4) hF
      refine lv_iload_n X.1 X.2.1 dX6_reckon_14 rfl (lv_at hl 2 rfl) ?_
      obtain ⟨v6, e5, hF⟩ := hp_b hF
      refine hp_ci Y (hp_runS X Y (As := [.int x2]) (n := 1) (mX6_isRegister l G e5) gX6_reckon_X6_isRegister rfl rfl rfl ndX6_isRegister ⟨Nat.le_of_ble_eq_true rfl, Nat.le_of_ble_eq_true rfl⟩ rfl hl.1 rfl (Nat.le_of_ble_eq_true rfl) dX6_reckon_15 ⟨Nat.zero_le _, Nat.zero_le _⟩) (fun H locs Y => ?_)
      refine lv_if_eq (tgt := 36) X.1 X.2.1 dX6_reckon_18 (by decide) (fun c7 => ?_) (fun c7 => ?_)
      · have hF := hp_ifp (c7) hF
        refine lv_iconst (v := -1) X.1 X.2.1 dX6_reckon_36 (by decide) ?_
        cases hF
        exact hp_ri X Y rfl rfl dX6_reckon_37
      · have hF := hp_ifn (c7) hF
        refine lv_iload_n X.1 X.2.1 dX6_reckon_21 rfl (lv_at hl 3 rfl) ?_
        obtain ⟨v9, e8, hF⟩ := hp_b hF
        refine hp_ci Y (hp_runS X Y (As := [.int x3]) (n := 1) (mX6_isRegister l G e8) gX6_reckon_X6_isRegister rfl rfl rfl ndX6_isRegister ⟨Nat.le_of_ble_eq_true rfl, Nat.le_of_ble_eq_true rfl⟩ rfl hl.1 rfl (Nat.le_of_ble_eq_true rfl) dX6_reckon_22 ⟨Nat.zero_le _, Nat.zero_le _⟩) (fun H locs Y => ?_)
        refine lv_if_eq (tgt := 36) X.1 X.2.1 dX6_reckon_25 (by decide) (fun c10 => ?_) (fun c10 => ?_)
        · have hF := hp_ifp (c10) hF
          refine lv_iconst (v := -1) X.1 X.2.1 dX6_reckon_36 (by decide) ?_
          cases hF
          exact hp_ri X Y rfl rfl dX6_reckon_37
        · have hF := hp_ifn (c10) hF
          refine lv_iload X.1 X.2.1 dX6_reckon_28 (lv_at hl 4 rfl) ?_
          obtain ⟨v12, e11, hF⟩ := hp_b hF
          refine hp_ci Y (hp_runS X Y (As := [.int x4]) (n := 1) (mX6_isRegister l G e11) gX6_reckon_X6_isRegister rfl rfl rfl ndX6_isRegister ⟨Nat.le_of_ble_eq_true rfl, Nat.le_of_ble_eq_true rfl⟩ rfl hl.1 rfl (Nat.le_of_ble_eq_true rfl) dX6_reckon_30 ⟨Nat.zero_le _, Nat.zero_le _⟩) (fun H locs Y => ?_)
          refine lv_if_ne (tgt := 38) X.1 X.2.1 dX6_reckon_33 (by decide) (fun c13 => ?_) (fun c13 => ?_)
          · have hF := hp_ifn (c13) hF
            refine lv_aload_n X.1 X.2.1 dX6_reckon_38 rfl (lv_at hl 0 rfl) ?_
            refine lv_iload_n X.1 X.2.1 dX6_reckon_39 rfl (lv_at hl 3 rfl) ?_
            obtain ⟨h15, e14, hF⟩ := hp_b hF
            refine hp_cv Y (hp_runV X Y (ci := 6) (As := [.int x3]) (n := 1) (T := TX6) (N := 14) (mX6_toX l G e14) rfl (oX6_toX e14) gX6_reckon_X6_toX rfl rfl rfl ndX6_toX ⟨Nat.le_of_ble_eq_true rfl, Nat.le_of_ble_eq_true rfl⟩ rfl hl.1 rfl (Nat.le_of_ble_eq_true rfl) dX6_reckon_40 ⟨Nat.zero_le _, Nat.zero_le _⟩) (fun H locs Y => ?_)
            refine lv_aload_n X.1 X.2.1 dX6_reckon_43 rfl (lv_at hl 0 rfl) ?_
            refine lv_iload X.1 X.2.1 dX6_reckon_44 (lv_at hl 4 rfl) ?_
            obtain ⟨h17, e16, hF⟩ := hp_b hF
            refine hp_cv Y (hp_runV X Y (ci := 6) (As := [.int x4]) (n := 1) (T := TX6) (N := 14) (mX6_toY l G e16) rfl (oX6_toY e16) gX6_reckon_X6_toY rfl rfl rfl ndX6_toY ⟨Nat.le_of_ble_eq_true rfl, Nat.le_of_ble_eq_true rfl⟩ rfl hl.1 rfl (Nat.le_of_ble_eq_true rfl) dX6_reckon_46 ⟨Nat.zero_le _, Nat.zero_le _⟩) (fun H locs Y => ?_)
            refine lv_iload_n X.1 X.2.1 dX6_reckon_49 rfl (lv_at hl 1 rfl) ?_
            refine lv_iconst (v := 2) X.1 X.2.1 dX6_reckon_50 (by decide) ?_
            refine lv_icmp_ne (tgt := 86) X.1 X.2.1 dX6_reckon_51 (by decide) (fun c18 => ?_) (fun c18 => ?_)
            · have hF := hp_ifn (c18) hF
              refine lv_aload_n X.1 X.2.1 dX6_reckon_86 rfl (lv_at hl 0 rfl) ?_
              refine lv_aload_n X.1 X.2.1 dX6_reckon_87 rfl (lv_at hl 0 rfl) ?_
              obtain ⟨v19, e20, hF⟩ := hp_b hF
              refine hp_getr X Y (C := RX6) (T := TX6) (N := 14) (ci := 6) (k := 2) rfl inX6_reckon_X6 (by decide) lkX6_reckon_f16 e20 dX6_reckon_88 ?_
              refine lv_iload_n X.1 X.2.1 dX6_reckon_91 rfl (lv_at hl 3 rfl) ?_
              obtain ⟨v21, e22, hF⟩ := hp_b hF
              refine hp_iald X Y e22 dX6_reckon_92 ?_
              refine lv_iload_n X.1 X.2.1 dX6_reckon_93 rfl (lv_at hl 1 rfl) ?_
              refine lv_if_ne (tgt := 107) X.1 X.2.1 dX6_reckon_94 (by decide) (fun c23 => ?_) (fun c23 => ?_)
              · have hF := hp_ifn (c23) hF
                refine lv_aload_n X.1 X.2.1 dX6_reckon_107 rfl (lv_at hl 0 rfl) ?_
                obtain ⟨v24, e25, hF⟩ := hp_b hF
                refine hp_getr X Y (C := RX6) (T := TX6) (N := 14) (ci := 6) (k := 2) rfl inX6_reckon_X6 (by decide) lkX6_reckon_f16 e25 dX6_reckon_108 ?_
                refine lv_iload X.1 X.2.1 dX6_reckon_111 (lv_at hl 4 rfl) ?_
                obtain ⟨v26, e27, hF⟩ := hp_b hF
                refine hp_iald X Y e27 dX6_reckon_113 ?_
                refine lv_ineg X.1 X.2.1 dX6_reckon_114 ?_
                exact wX6_reckon_115 X  Y (lv_sub hl [0, 2] rfl) hF
              · have hF := hp_ifp (c23) hF
                refine lv_aload_n X.1 X.2.1 dX6_reckon_97 rfl (lv_at hl 0 rfl) ?_
                obtain ⟨v28, e29, hF⟩ := hp_b hF
                refine hp_getr X Y (C := RX6) (T := TX6) (N := 14) (ci := 6) (k := 2) rfl inX6_reckon_X6 (by decide) lkX6_reckon_f16 e29 dX6_reckon_98 ?_
                refine lv_iload X.1 X.2.1 dX6_reckon_101 (lv_at hl 4 rfl) ?_
                obtain ⟨v30, e31, hF⟩ := hp_b hF
                refine hp_iald X Y e31 dX6_reckon_103 ?_
                refine lv_goto (tgt := 115) X.1 X.2.1 dX6_reckon_104 (by decide) ?_
                exact wX6_reckon_115 X  Y (lv_sub hl [0, 2] rfl) hF
            · have hF := hp_ifp (c18) hF
              refine lv_aload_n X.1 X.2.1 dX6_reckon_54 rfl (lv_at hl 0 rfl) ?_
              obtain ⟨h33, e32, hF⟩ := hp_b hF
              refine hp_cv Y (hp_runV X Y (ci := 6) (As := []) (n := 0) (T := TX6) (N := 14) (mX6_multiply l G e32) rfl (oX6_multiply e32) gX6_reckon_X6_multiply rfl rfl rfl ndX6_multiply ⟨Nat.le_of_ble_eq_true rfl, Nat.le_of_ble_eq_true rfl⟩ rfl hl.1 rfl (Nat.le_of_ble_eq_true rfl) dX6_reckon_55 ⟨Nat.zero_le _, Nat.zero_le _⟩) (fun H locs Y => ?_)
              refine lv_aload_n X.1 X.2.1 dX6_reckon_58 rfl (lv_at hl 0 rfl) ?_
              refine lv_iload_n X.1 X.2.1 dX6_reckon_59 rfl (lv_at hl 2 rfl) ?_
              refine lv_aload_n X.1 X.2.1 dX6_reckon_60 rfl (lv_at hl 0 rfl) ?_
              obtain ⟨v34, e35, hF⟩ := hp_b hF
              refine hp_getr X Y (C := RX6) (T := TX6) (N := 14) (ci := 6) (k := 7) rfl inX6_reckon_X6 (by decide) lkX6_reckon_f28 e35 dX6_reckon_61 ?_
              refine lv_aload_n X.1 X.2.1 dX6_reckon_64 rfl (lv_at hl 0 rfl) ?_
              obtain ⟨v36, e37, hF⟩ := hp_b hF
              refine hp_geti X Y (C := RX6) (T := TX6) (N := 14) (ci := 6) (k := 10) rfl inX6_reckon_X6 (by decide) lkX6_reckon_f89 e37 dX6_reckon_65 ?_
              refine lv_aload_n X.1 X.2.1 dX6_reckon_68 rfl (lv_at hl 0 rfl) ?_
              obtain ⟨v38, e39, hF⟩ := hp_b hF
              refine hp_getr X Y (C := RX6) (T := TX6) (N := 14) (ci := 6) (k := 2) rfl inX6_reckon_X6 (by decide) lkX6_reckon_f16 e39 dX6_reckon_69 ?_
              refine lv_iload_n X.1 X.2.1 dX6_reckon_72 rfl (lv_at hl 3 rfl) ?_
              obtain ⟨v40, e41, hF⟩ := hp_b hF
              refine hp_iald X Y e41 dX6_reckon_73 ?_
              refine lv_aload_n X.1 X.2.1 dX6_reckon_74 rfl (lv_at hl 0 rfl) ?_
              obtain ⟨v42, e43, hF⟩ := hp_b hF
              refine hp_getr X Y (C := RX6) (T := TX6) (N := 14) (ci := 6) (k := 2) rfl inX6_reckon_X6 (by decide) lkX6_reckon_f16 e43 dX6_reckon_75 ?_
              refine lv_iload X.1 X.2.1 dX6_reckon_78 (lv_at hl 4 rfl) ?_
              obtain ⟨v44, e45, hF⟩ := hp_b hF
              refine hp_iald X Y e45 dX6_reckon_80 ?_
              refine lv_imul X.1 X.2.1 dX6_reckon_81 ?_
              obtain ⟨⟨v48, h47⟩, e46, hF⟩ := hp_b hF
              refine hp_ci Y (hp_runV X Y (ci := 6) (As := [.int x2, .ref v34, .int v36, .int (v40 * v44)]) (n := 4) (T := TX6) (N := 14) (mX6_put l G e46) rfl (oX6_put e46) gX6_reckon_X6_put rfl rfl rfl ndX6_put ⟨Nat.le_of_ble_eq_true rfl, Nat.le_of_ble_eq_true rfl⟩ rfl hl.1 rfl (Nat.le_of_ble_eq_true rfl) dX6_reckon_82 ⟨Nat.zero_le _, Nat.zero_le _⟩) (fun H locs Y => ?_)
              cases hF
              exact hp_ri X Y rfl rfl dX6_reckon_85
          · have hF := hp_ifp (c13) hF
            refine lv_iconst (v := -1) X.1 X.2.1 dX6_reckon_36 (by decide) ?_
            cases hF
            exact hp_ri X Y rfl rfl dX6_reckon_37

/-! WholeNumbersModel.split -/
def rmX6_split : Room := { frames := 2, cells := 0, slots := 0, locals := 48 }
def bX6_split_149 (k52 : Int32 → hp_H → Option hp_H) (x0 : Nat) (x1 : Int32) (x2 : Int32)  (h : hp_H) : Option hp_H :=
  (some (x2 + (1 : Int32))).bind fun v1 =>
  k52 v1 h
def bX6_split_52  (x0 : Nat) (x1 : Int32) : Nat → Int32 → hp_H → Option hp_H
  | 0, _, _ => none
  | n + 1, x2, h =>
  if x1 ≤ x2 then (
    some h)
  else (
    (hp_gr h x0 6 6).bind fun v2 =>
    (hp_gi h x0 6 9).bind fun v4 =>
    (fX6_half v2 v4 h).bind fun (v8, h7) =>
    (hp_pv h7 x0 6 9 (.int v8)).bind fun h10 =>
    (hp_gr h10 x0 6 7).bind fun v12 =>
    (hp_gi h10 x0 6 10).bind fun v14 =>
    (fX6_twice v12 v14 h10).bind fun (v18, h17) =>
    (hp_pv h17 x0 6 10 (.int v18)).bind fun h20 =>
    (hp_gr h20 x0 6 6).bind fun v22 =>
    (hp_gi h20 x0 6 9).bind fun v24 =>
    (hp_gr h20 x0 6 5).bind fun v26 =>
    (hp_gi h20 x0 6 8).bind fun v28 =>
    (fX6_compareRows v22 v24 v26 v28 h20).bind fun v31 =>
    if 0 < v31 then (
      bX6_split_149 (bX6_split_52 x0 x1 n) x0 x1 x2 h20)
    else (
      (hp_gr h20 x0 6 5).bind fun v33 =>
      (hp_gi h20 x0 6 8).bind fun v35 =>
      (hp_gr h20 x0 6 6).bind fun v37 =>
      (hp_gi h20 x0 6 9).bind fun v39 =>
      (fX6_taken v33 v35 v37 v39 h20).bind fun (v43, h42) =>
      (hp_pv h42 x0 6 8 (.int v43)).bind fun h45 =>
      (hp_gr h45 x0 6 7).bind fun v47 =>
      (hp_gi h45 x0 6 10).bind fun v49 =>
      (fX6_scaled v47 v49 (1 : Int32) (1 : Int32) h45).bind fun (v53, h52) =>
      (hp_pv h52 x0 6 10 (.int v53)).bind fun h55 =>
      bX6_split_149 (bX6_split_52 x0 x1 n) x0 x1 x2 h55))
def bX6_split_2  (x0 : Nat) : Nat → Int32 → hp_H → Option hp_H
  | 0, _, _ => none
  | n + 1, x1, h =>
  (hp_gr h x0 6 6).bind fun v1 =>
  (hp_gi h x0 6 9).bind fun v3 =>
  (hp_gr h x0 6 5).bind fun v5 =>
  (hp_gi h x0 6 8).bind fun v7 =>
  (fX6_compareRows v1 v3 v5 v7 h).bind fun v10 =>
  if 0 < v10 then (
    (hp_pv h x0 6 10 (.int (0 : Int32))).bind fun h12 =>
    bX6_split_52 x0 x1 hp_n (0 : Int32) h12)
  else (
    (hp_gr h x0 6 6).bind fun v14 =>
    (hp_gi h x0 6 9).bind fun v16 =>
    (fX6_twice v14 v16 h).bind fun (v20, h19) =>
    (hp_pv h19 x0 6 9 (.int v20)).bind fun h22 =>
    (some (x1 + (1 : Int32))).bind fun v24 =>
    bX6_split_2 x0 n v24 h22)
def fX6_split (x0 : Nat) (h : hp_H) : Option hp_H :=
  if hp_o h x0 6 = true then
  bX6_split_2 x0 hp_n (0 : Int32) h
  else none
theorem inX6_split_X6 : ∀ w ∈ wsX60, w ∈ wsX6_split := by decide +kernel
theorem lkX6_split_f25 : Cond.fieldLink RX6 25 (TX6 6).1 (TX6 6).2.1 (TX6 6).2.2.1 ∈ wsX6_split := by decide +kernel
theorem lkX6_split_f55 : Cond.fieldLink RX6 55 (TX6 9).1 (TX6 9).2.1 (TX6 9).2.2.1 ∈ wsX6_split := by decide +kernel
theorem lkX6_split_f28 : Cond.fieldLink RX6 28 (TX6 7).1 (TX6 7).2.1 (TX6 7).2.2.1 ∈ wsX6_split := by decide +kernel
theorem lkX6_split_f89 : Cond.fieldLink RX6 89 (TX6 10).1 (TX6 10).2.1 (TX6 10).2.2.1 ∈ wsX6_split := by decide +kernel
theorem lkX6_split_f22 : Cond.fieldLink RX6 22 (TX6 5).1 (TX6 5).2.1 (TX6 5).2.2.1 ∈ wsX6_split := by decide +kernel
theorem lkX6_split_f34 : Cond.fieldLink RX6 34 (TX6 8).1 (TX6 8).2.1 (TX6 8).2.2.1 ∈ wsX6_split := by decide +kernel
theorem ndX6_split : yX6_split.cls ≠ "java/lang/invoke/MethodHandle" ∧ yX6_split.cls ≠ "java/lang/invoke/VarHandle" ∧ (parseMethodDescriptor yX6_split.desc).map (fun d => d.parameters.length) = some 0 := by decide +kernel
set_option maxRecDepth 100000 in
set_option maxHeartbeats 4000000 in
theorem wX6_split_149 {p : Program} {l : Launch} {e : Env} {s : State} {m : MethodId} {args : Array Value} {below : List Frame} {meth : Method} {c : Code} {G : hp_G} {h0 h' : hp_H}  (X : hp_X p s m args meth c cX6_split 3 RX6 wsX6_split none G) {k52 : Int32 → hp_H → Option hp_H} {x0 : Nat} {x1 : Int32} {x2 : Int32}  (hk52 : ∀ (y2 : Int32) (h : hp_H) (H : Heap) (locs : List Loc) (ls : Array Slot), hp_Y G h h0 s H locs → lv_has ls 3 [(0, .ref x0), (1, .int x1), (2, .int y2)] → k52 y2 h = some h' → W p l e rmX6_split s m args below meth c H locs 0 0 (MQ below (va_Qv (fun u => u = h') (hp_B G h0) (hp_A h0)) args s 0 0 (hp_A h0)) (F0 m 52 ls [])) {h : hp_H} {H : Heap} {locs : List Loc} {ls : Array Slot} (Y : hp_Y G h h0 s H locs) (hl : lv_has ls 3 [(0, .ref x0), (1, .int x1), (2, .int x2)]) (hF : bX6_split_149 k52 x0 x1 x2 h = some h') : W p l e rmX6_split s m args below meth c H locs 0 0 (MQ below (va_Qv (fun u => u = h') (hp_B G h0) (hp_A h0)) args s 0 0 (hp_A h0)) (F0 m 149 ls []) := by
  unfold bX6_split_149 at hF
  obtain ⟨v1, e2, hF⟩ := hp_b hF
  refine lv_iinc (v := v1) (lv' := [(2, .int v1), (0, .ref x0), (1, .int x1)]) X.1 X.2.1 dX6_split_149 hl (k := 2) rfl (Option.some.inj e2) (by decide) rfl (fun ls hl => ?_)
  refine lv_goto (tgt := 52) X.1 X.2.1 dX6_split_152 (by decide) ?_
  exact hk52 _ _  _ _ _ Y (lv_sub hl [1, 2, 0] rfl) hF
set_option maxRecDepth 100000 in
set_option maxHeartbeats 4000000 in
theorem wX6_split_52 {p : Program} {l : Launch} {e : Env} {s : State} {m : MethodId} {args : Array Value} {below : List Frame} {meth : Method} {c : Code} {G : hp_G} {h0 h' : hp_H}  (X : hp_X p s m args meth c cX6_split 3 RX6 wsX6_split none G)  {x0 : Nat} {x1 : Int32}   : ∀ (n : Nat) {x2 : Int32} {h : hp_H} {H : Heap} {locs : List Loc} {ls : Array Slot} (Y : hp_Y G h h0 s H locs) (hl : lv_has ls 3 [(0, .ref x0), (1, .int x1), (2, .int x2)]) (hF : bX6_split_52 x0 x1 n x2 h = some h'), W p l e rmX6_split s m args below meth c H locs 0 0 (MQ below (va_Qv (fun u => u = h') (hp_B G h0) (hp_A h0)) args s 0 0 (hp_A h0)) (F0 m 52 ls []) := by
  intro n
  induction n with
  | zero =>
    intro x2 h H locs ls Y hl hF
    exact absurd (show none = some _ from hF) (by simp)
  | succ n ih =>
    intro x2 h H locs ls Y hl hF
    rw [bX6_split_52] at hF
    refine lv_iload_n X.1 X.2.1 dX6_split_52 rfl (lv_at hl 2 rfl) ?_
    refine lv_iload_n X.1 X.2.1 dX6_split_53 rfl (lv_at hl 1 rfl) ?_
    refine lv_icmp_ge (tgt := 155) X.1 X.2.1 dX6_split_54 (by decide) (fun c1 => ?_) (fun c1 => ?_)
    · have hF := hp_ifp (c1) hF
      cases hF
      exact hp_rv X Y rfl dX6_split_155
    · have hF := hp_ifn (c1) hF
      refine lv_aload_n X.1 X.2.1 dX6_split_57 rfl (lv_at hl 0 rfl) ?_
      refine lv_aload_n X.1 X.2.1 dX6_split_58 rfl (lv_at hl 0 rfl) ?_
      obtain ⟨v2, e3, hF⟩ := hp_b hF
      refine hp_getr X Y (C := RX6) (T := TX6) (N := 14) (ci := 6) (k := 6) rfl inX6_split_X6 (by decide) lkX6_split_f25 e3 dX6_split_59 ?_
      refine lv_aload_n X.1 X.2.1 dX6_split_62 rfl (lv_at hl 0 rfl) ?_
      obtain ⟨v4, e5, hF⟩ := hp_b hF
      refine hp_geti X Y (C := RX6) (T := TX6) (N := 14) (ci := 6) (k := 9) rfl inX6_split_X6 (by decide) lkX6_split_f55 e5 dX6_split_63 ?_
      obtain ⟨⟨v8, h7⟩, e6, hF⟩ := hp_b hF
      refine hp_ci Y (hp_runS X Y (As := [.ref v2, .int v4]) (n := 2) (mX6_half l G e6) gX6_split_X6_half rfl rfl rfl ndX6_half ⟨Nat.le_of_ble_eq_true rfl, Nat.le_of_ble_eq_true rfl⟩ rfl hl.1 rfl (Nat.le_of_ble_eq_true rfl) dX6_split_66 ⟨Nat.zero_le _, Nat.zero_le _⟩) (fun H locs Y => ?_)
      obtain ⟨h10, e11, hF⟩ := hp_b hF
      refine hp_put X Y (C := RX6) (T := TX6) (N := 14) (ci := 6) (k := 9) (ty0 := tyX6) rfl inX6_split_X6 tyX6_ok nmX6 (by decide) lkX6_split_f55 rfl rfl rfl e11 dX6_split_69 (fun H locs Y => ?_)
      refine lv_aload_n X.1 X.2.1 dX6_split_72 rfl (lv_at hl 0 rfl) ?_
      refine lv_aload_n X.1 X.2.1 dX6_split_73 rfl (lv_at hl 0 rfl) ?_
      obtain ⟨v12, e13, hF⟩ := hp_b hF
      refine hp_getr X Y (C := RX6) (T := TX6) (N := 14) (ci := 6) (k := 7) rfl inX6_split_X6 (by decide) lkX6_split_f28 e13 dX6_split_74 ?_
      refine lv_aload_n X.1 X.2.1 dX6_split_77 rfl (lv_at hl 0 rfl) ?_
      obtain ⟨v14, e15, hF⟩ := hp_b hF
      refine hp_geti X Y (C := RX6) (T := TX6) (N := 14) (ci := 6) (k := 10) rfl inX6_split_X6 (by decide) lkX6_split_f89 e15 dX6_split_78 ?_
      obtain ⟨⟨v18, h17⟩, e16, hF⟩ := hp_b hF
      refine hp_ci Y (hp_runS X Y (As := [.ref v12, .int v14]) (n := 2) (mX6_twice l G e16) gX6_split_X6_twice rfl rfl rfl ndX6_twice ⟨Nat.le_of_ble_eq_true rfl, Nat.le_of_ble_eq_true rfl⟩ rfl hl.1 rfl (Nat.le_of_ble_eq_true rfl) dX6_split_81 ⟨Nat.zero_le _, Nat.zero_le _⟩) (fun H locs Y => ?_)
      obtain ⟨h20, e21, hF⟩ := hp_b hF
      refine hp_put X Y (C := RX6) (T := TX6) (N := 14) (ci := 6) (k := 10) (ty0 := tyX6) rfl inX6_split_X6 tyX6_ok nmX6 (by decide) lkX6_split_f89 rfl rfl rfl e21 dX6_split_84 (fun H locs Y => ?_)
      refine lv_aload_n X.1 X.2.1 dX6_split_87 rfl (lv_at hl 0 rfl) ?_
      obtain ⟨v22, e23, hF⟩ := hp_b hF
      refine hp_getr X Y (C := RX6) (T := TX6) (N := 14) (ci := 6) (k := 6) rfl inX6_split_X6 (by decide) lkX6_split_f25 e23 dX6_split_88 ?_
      refine lv_aload_n X.1 X.2.1 dX6_split_91 rfl (lv_at hl 0 rfl) ?_
      obtain ⟨v24, e25, hF⟩ := hp_b hF
      refine hp_geti X Y (C := RX6) (T := TX6) (N := 14) (ci := 6) (k := 9) rfl inX6_split_X6 (by decide) lkX6_split_f55 e25 dX6_split_92 ?_
      refine lv_aload_n X.1 X.2.1 dX6_split_95 rfl (lv_at hl 0 rfl) ?_
      obtain ⟨v26, e27, hF⟩ := hp_b hF
      refine hp_getr X Y (C := RX6) (T := TX6) (N := 14) (ci := 6) (k := 5) rfl inX6_split_X6 (by decide) lkX6_split_f22 e27 dX6_split_96 ?_
      refine lv_aload_n X.1 X.2.1 dX6_split_99 rfl (lv_at hl 0 rfl) ?_
      obtain ⟨v28, e29, hF⟩ := hp_b hF
      refine hp_geti X Y (C := RX6) (T := TX6) (N := 14) (ci := 6) (k := 8) rfl inX6_split_X6 (by decide) lkX6_split_f34 e29 dX6_split_100 ?_
      obtain ⟨v31, e30, hF⟩ := hp_b hF
      refine hp_ci Y (hp_runS X Y (As := [.ref v22, .int v24, .ref v26, .int v28]) (n := 4) (mX6_compareRows l G e30) gX6_split_X6_compareRows rfl rfl rfl ndX6_compareRows ⟨Nat.le_of_ble_eq_true rfl, Nat.le_of_ble_eq_true rfl⟩ rfl hl.1 rfl (Nat.le_of_ble_eq_true rfl) dX6_split_103 ⟨Nat.zero_le _, Nat.zero_le _⟩) (fun H locs Y => ?_)
      refine lv_if_gt (tgt := 149) X.1 X.2.1 dX6_split_106 (by decide) (fun c32 => ?_) (fun c32 => ?_)
      · have hF := hp_ifp (c32) hF
        exact wX6_split_149 X (fun _ _ _ _ _ Y hl hF => ih Y hl hF) Y (lv_sub hl [0, 1, 2] rfl) hF
      · have hF := hp_ifn (c32) hF
        refine lv_aload_n X.1 X.2.1 dX6_split_109 rfl (lv_at hl 0 rfl) ?_
        refine lv_aload_n X.1 X.2.1 dX6_split_110 rfl (lv_at hl 0 rfl) ?_
        obtain ⟨v33, e34, hF⟩ := hp_b hF
        refine hp_getr X Y (C := RX6) (T := TX6) (N := 14) (ci := 6) (k := 5) rfl inX6_split_X6 (by decide) lkX6_split_f22 e34 dX6_split_111 ?_
        refine lv_aload_n X.1 X.2.1 dX6_split_114 rfl (lv_at hl 0 rfl) ?_
        obtain ⟨v35, e36, hF⟩ := hp_b hF
        refine hp_geti X Y (C := RX6) (T := TX6) (N := 14) (ci := 6) (k := 8) rfl inX6_split_X6 (by decide) lkX6_split_f34 e36 dX6_split_115 ?_
        refine lv_aload_n X.1 X.2.1 dX6_split_118 rfl (lv_at hl 0 rfl) ?_
        obtain ⟨v37, e38, hF⟩ := hp_b hF
        refine hp_getr X Y (C := RX6) (T := TX6) (N := 14) (ci := 6) (k := 6) rfl inX6_split_X6 (by decide) lkX6_split_f25 e38 dX6_split_119 ?_
        refine lv_aload_n X.1 X.2.1 dX6_split_122 rfl (lv_at hl 0 rfl) ?_
        obtain ⟨v39, e40, hF⟩ := hp_b hF
        refine hp_geti X Y (C := RX6) (T := TX6) (N := 14) (ci := 6) (k := 9) rfl inX6_split_X6 (by decide) lkX6_split_f55 e40 dX6_split_123 ?_
        obtain ⟨⟨v43, h42⟩, e41, hF⟩ := hp_b hF
        refine hp_ci Y (hp_runS X Y (As := [.ref v33, .int v35, .ref v37, .int v39]) (n := 4) (mX6_taken l G e41) gX6_split_X6_taken rfl rfl rfl ndX6_taken ⟨Nat.le_of_ble_eq_true rfl, Nat.le_of_ble_eq_true rfl⟩ rfl hl.1 rfl (Nat.le_of_ble_eq_true rfl) dX6_split_126 ⟨Nat.zero_le _, Nat.zero_le _⟩) (fun H locs Y => ?_)
        obtain ⟨h45, e46, hF⟩ := hp_b hF
        refine hp_put X Y (C := RX6) (T := TX6) (N := 14) (ci := 6) (k := 8) (ty0 := tyX6) rfl inX6_split_X6 tyX6_ok nmX6 (by decide) lkX6_split_f34 rfl rfl rfl e46 dX6_split_129 (fun H locs Y => ?_)
        refine lv_aload_n X.1 X.2.1 dX6_split_132 rfl (lv_at hl 0 rfl) ?_
        refine lv_aload_n X.1 X.2.1 dX6_split_133 rfl (lv_at hl 0 rfl) ?_
        obtain ⟨v47, e48, hF⟩ := hp_b hF
        refine hp_getr X Y (C := RX6) (T := TX6) (N := 14) (ci := 6) (k := 7) rfl inX6_split_X6 (by decide) lkX6_split_f28 e48 dX6_split_134 ?_
        refine lv_aload_n X.1 X.2.1 dX6_split_137 rfl (lv_at hl 0 rfl) ?_
        obtain ⟨v49, e50, hF⟩ := hp_b hF
        refine hp_geti X Y (C := RX6) (T := TX6) (N := 14) (ci := 6) (k := 10) rfl inX6_split_X6 (by decide) lkX6_split_f89 e50 dX6_split_138 ?_
        refine lv_iconst (v := 1) X.1 X.2.1 dX6_split_141 (by decide) ?_
        refine lv_iconst (v := 1) X.1 X.2.1 dX6_split_142 (by decide) ?_
        obtain ⟨⟨v53, h52⟩, e51, hF⟩ := hp_b hF
        refine hp_ci Y (hp_runS X Y (As := [.ref v47, .int v49, .int (1 : Int32), .int (1 : Int32)]) (n := 4) (mX6_scaled l G e51) gX6_split_X6_scaled rfl rfl rfl ndX6_scaled ⟨Nat.le_of_ble_eq_true rfl, Nat.le_of_ble_eq_true rfl⟩ rfl hl.1 rfl (Nat.le_of_ble_eq_true rfl) dX6_split_143 ⟨Nat.zero_le _, Nat.zero_le _⟩) (fun H locs Y => ?_)
        obtain ⟨h55, e56, hF⟩ := hp_b hF
        refine hp_put X Y (C := RX6) (T := TX6) (N := 14) (ci := 6) (k := 10) (ty0 := tyX6) rfl inX6_split_X6 tyX6_ok nmX6 (by decide) lkX6_split_f89 rfl rfl rfl e56 dX6_split_146 (fun H locs Y => ?_)
        exact wX6_split_149 X (fun _ _ _ _ _ Y hl hF => ih Y hl hF) Y (lv_sub hl [0, 1, 2] rfl) hF
set_option maxRecDepth 100000 in
set_option maxHeartbeats 4000000 in
theorem wX6_split_2 {p : Program} {l : Launch} {e : Env} {s : State} {m : MethodId} {args : Array Value} {below : List Frame} {meth : Method} {c : Code} {G : hp_G} {h0 h' : hp_H}  (X : hp_X p s m args meth c cX6_split 3 RX6 wsX6_split none G)  {x0 : Nat}   : ∀ (n : Nat) {x1 : Int32} {h : hp_H} {H : Heap} {locs : List Loc} {ls : Array Slot} (Y : hp_Y G h h0 s H locs) (hl : lv_has ls 3 [(0, .ref x0), (1, .int x1)]) (hF : bX6_split_2 x0 n x1 h = some h'), W p l e rmX6_split s m args below meth c H locs 0 0 (MQ below (va_Qv (fun u => u = h') (hp_B G h0) (hp_A h0)) args s 0 0 (hp_A h0)) (F0 m 2 ls []) := by
  intro n
  induction n with
  | zero =>
    intro x1 h H locs ls Y hl hF
    exact absurd (show none = some _ from hF) (by simp)
  | succ n ih =>
    intro x1 h H locs ls Y hl hF
    rw [bX6_split_2] at hF
    refine lv_aload_n X.1 X.2.1 dX6_split_2 rfl (lv_at hl 0 rfl) ?_
    obtain ⟨v1, e2, hF⟩ := hp_b hF
    refine hp_getr X Y (C := RX6) (T := TX6) (N := 14) (ci := 6) (k := 6) rfl inX6_split_X6 (by decide) lkX6_split_f25 e2 dX6_split_3 ?_
    refine lv_aload_n X.1 X.2.1 dX6_split_6 rfl (lv_at hl 0 rfl) ?_
    obtain ⟨v3, e4, hF⟩ := hp_b hF
    refine hp_geti X Y (C := RX6) (T := TX6) (N := 14) (ci := 6) (k := 9) rfl inX6_split_X6 (by decide) lkX6_split_f55 e4 dX6_split_7 ?_
    refine lv_aload_n X.1 X.2.1 dX6_split_10 rfl (lv_at hl 0 rfl) ?_
    obtain ⟨v5, e6, hF⟩ := hp_b hF
    refine hp_getr X Y (C := RX6) (T := TX6) (N := 14) (ci := 6) (k := 5) rfl inX6_split_X6 (by decide) lkX6_split_f22 e6 dX6_split_11 ?_
    refine lv_aload_n X.1 X.2.1 dX6_split_14 rfl (lv_at hl 0 rfl) ?_
    obtain ⟨v7, e8, hF⟩ := hp_b hF
    refine hp_geti X Y (C := RX6) (T := TX6) (N := 14) (ci := 6) (k := 8) rfl inX6_split_X6 (by decide) lkX6_split_f34 e8 dX6_split_15 ?_
    obtain ⟨v10, e9, hF⟩ := hp_b hF
    refine hp_ci Y (hp_runS X Y (As := [.ref v1, .int v3, .ref v5, .int v7]) (n := 4) (mX6_compareRows l G e9) gX6_split_X6_compareRows rfl rfl rfl ndX6_compareRows ⟨Nat.le_of_ble_eq_true rfl, Nat.le_of_ble_eq_true rfl⟩ rfl hl.1 rfl (Nat.le_of_ble_eq_true rfl) dX6_split_18 ⟨Nat.zero_le _, Nat.zero_le _⟩) (fun H locs Y => ?_)
    refine lv_if_gt (tgt := 45) X.1 X.2.1 dX6_split_21 (by decide) (fun c11 => ?_) (fun c11 => ?_)
    · have hF := hp_ifp (c11) hF
      refine lv_aload_n X.1 X.2.1 dX6_split_45 rfl (lv_at hl 0 rfl) ?_
      refine lv_iconst (v := 0) X.1 X.2.1 dX6_split_46 (by decide) ?_
      obtain ⟨h12, e13, hF⟩ := hp_b hF
      refine hp_put X Y (C := RX6) (T := TX6) (N := 14) (ci := 6) (k := 10) (ty0 := tyX6) rfl inX6_split_X6 tyX6_ok nmX6 (by decide) lkX6_split_f89 rfl rfl rfl e13 dX6_split_47 (fun H locs Y => ?_)
      refine lv_iconst (v := 0) X.1 X.2.1 dX6_split_50 (by decide) ?_
      refine lv_istore_n (lv' := [(2, .int (0 : Int32)), (0, .ref x0), (1, .int x1)]) X.1 X.2.1 dX6_split_51 rfl hl (by decide) rfl (fun ls hl => ?_)
      exact wX6_split_52 X  hp_n Y (lv_sub hl [1, 2, 0] rfl) hF
    · have hF := hp_ifn (c11) hF
      refine lv_aload_n X.1 X.2.1 dX6_split_24 rfl (lv_at hl 0 rfl) ?_
      refine lv_aload_n X.1 X.2.1 dX6_split_25 rfl (lv_at hl 0 rfl) ?_
      obtain ⟨v14, e15, hF⟩ := hp_b hF
      refine hp_getr X Y (C := RX6) (T := TX6) (N := 14) (ci := 6) (k := 6) rfl inX6_split_X6 (by decide) lkX6_split_f25 e15 dX6_split_26 ?_
      refine lv_aload_n X.1 X.2.1 dX6_split_29 rfl (lv_at hl 0 rfl) ?_
      obtain ⟨v16, e17, hF⟩ := hp_b hF
      refine hp_geti X Y (C := RX6) (T := TX6) (N := 14) (ci := 6) (k := 9) rfl inX6_split_X6 (by decide) lkX6_split_f55 e17 dX6_split_30 ?_
      obtain ⟨⟨v20, h19⟩, e18, hF⟩ := hp_b hF
      refine hp_ci Y (hp_runS X Y (As := [.ref v14, .int v16]) (n := 2) (mX6_twice l G e18) gX6_split_X6_twice rfl rfl rfl ndX6_twice ⟨Nat.le_of_ble_eq_true rfl, Nat.le_of_ble_eq_true rfl⟩ rfl hl.1 rfl (Nat.le_of_ble_eq_true rfl) dX6_split_33 ⟨Nat.zero_le _, Nat.zero_le _⟩) (fun H locs Y => ?_)
      obtain ⟨h22, e23, hF⟩ := hp_b hF
      refine hp_put X Y (C := RX6) (T := TX6) (N := 14) (ci := 6) (k := 9) (ty0 := tyX6) rfl inX6_split_X6 tyX6_ok nmX6 (by decide) lkX6_split_f55 rfl rfl rfl e23 dX6_split_36 (fun H locs Y => ?_)
      obtain ⟨v24, e25, hF⟩ := hp_b hF
      refine lv_iinc (v := v24) (lv' := [(1, .int v24), (0, .ref x0)]) X.1 X.2.1 dX6_split_39 hl (k := 1) rfl (Option.some.inj e25) (by decide) rfl (fun ls hl => ?_)
      refine lv_goto (tgt := 2) X.1 X.2.1 dX6_split_42 (by decide) ?_
      exact ih Y (lv_sub hl [1, 0] rfl) hF
theorem oX6_split {x0 : Nat} {h h' : hp_H}  (hF : fX6_split x0 h = some h') : hp_o h x0 6 = true := by
  unfold fX6_split at hF
  exact (hp_ift hF).1
set_option maxRecDepth 100000 in
set_option maxHeartbeats 4000000 in
theorem mX6_split (l : Launch) (G : hp_G) {x0 : Nat} {h h' : hp_H}  (hF : fX6_split x0 h = some h') : Met l yX6_split wsX6_split rmX6_split (va_Pc [.ref x0] (hp_S G h)) (va_Qv (fun u => u = h') (hp_B G h) (hp_A h)) 0 0 (hp_A h) := by
  refine hp_met (cc := cX6_split) (nL := 3) (ret := none) (by decide) rfl ?_
  intro p e s m below meth c X Y
  have hl := lv_entry ([.ref x0]) (n := 3) (Nat.le_of_ble_eq_true rfl)
  rw [lg_entry_eq]
  generalize (lg_sl ([.ref x0]) ++ List.replicate (3 - (lg_sl ([.ref x0])).length) Slot.unset).toArray = ls at hl ⊢
  have hl : lv_has ls 3 [(0, .ref x0)] := hl
  unfold fX6_split at hF
  obtain ⟨ho, hF⟩ := hp_ift hF
  refine lv_iconst (v := 0) X.1 X.2.1 dX6_split_0 (by decide) ?_
  refine lv_istore_n (lv' := [(1, .int (0 : Int32)), (0, .ref x0)]) X.1 X.2.1 dX6_split_1 rfl hl (by decide) rfl (fun ls hl => ?_)
  exact wX6_split_2 X  hp_n Y (lv_sub hl [1, 0] rfl) hF

/-! WholeNumbersModel.divide -/
def rmX6_divide : Room := { frames := 4, cells := 0, slots := 0, locals := 93 }
def bX6_divide_206  (x0 : Nat) (x1 : Int32) (x2 : Int32) (x6 : Int32) (x7 : Int32) (x8 : Int32) : Nat → Int32 → hp_H → Option (Int32 × hp_H)
  | 0, _, _ => none
  | n + 1, x9, h =>
  (hp_gi h x0 6 8).bind fun v1 =>
  if v1 ≤ x9 then (
    (hp_gi h x0 6 8).bind fun v4 =>
    (hp_pv h x0 6 9 (.int v4)).bind fun h6 =>
    (hp_gr h6 x0 6 6).bind fun v8 =>
    (hp_gi h6 x0 6 9).bind fun v10 =>
    (fX6_put x0 x2 v8 v10 x8 h6).bind fun (v14, h13) =>
    (hp_gr h13 x0 6 7).bind fun v16 =>
    (hp_gi h13 x0 6 10).bind fun v18 =>
    (fX6_put x0 x1 v16 v18 (x6 * x7) h13).bind fun (v22, h21) =>
    some (v22, h21))
  else (
    (hp_gr h x0 6 6).bind fun v24 =>
    (hp_gr h x0 6 5).bind fun v26 =>
    (hp_ai h 0 v26 x9).bind fun v28 =>
    (hp_si h 0 v24 x9 v28).bind fun h30 =>
    (some (x9 + (1 : Int32))).bind fun v32 =>
    bX6_divide_206 x0 x1 x2 x6 x7 x8 n v32 h30)
def bX6_divide_203  (x0 : Nat) (x1 : Int32) (x2 : Int32) (x6 : Int32) (x7 : Int32) (x8 : Int32)  (h : hp_H) : Option (Int32 × hp_H) :=
  bX6_divide_206 x0 x1 x2 x6 x7 x8 hp_n (0 : Int32) h
def bX6_divide_133  (x0 : Nat) (x1 : Int32) (x2 : Int32) (x4 : Int32) (x6 : Int32) (x7 : Int32) : Nat → Int32 → hp_H → Option (Int32 × hp_H)
  | 0, _, _ => none
  | n + 1, x9, h =>
  (hp_gi h x0 6 8).bind fun v1 =>
  if v1 ≤ x9 then (
    (hp_gi h x0 6 8).bind fun v4 =>
    (hp_pv h x0 6 9 (.int v4)).bind fun h6 =>
    (fX6_toX x0 x4 h6).bind fun h9 =>
    (hp_gr h9 x0 6 5).bind fun v10 =>
    (hp_gi h9 x0 6 8).bind fun v12 =>
    (hp_gr h9 x0 6 6).bind fun v14 =>
    (hp_gi h9 x0 6 9).bind fun v16 =>
    (fX6_taken v10 v12 v14 v16 h9).bind fun (v20, h19) =>
    (hp_pv h19 x0 6 8 (.int v20)).bind fun h22 =>
    bX6_divide_203 x0 x1 x2 x6 x7 x7 h22)
  else (
    (hp_gr h x0 6 6).bind fun v24 =>
    (hp_gr h x0 6 5).bind fun v26 =>
    (hp_ai h 0 v26 x9).bind fun v28 =>
    (hp_si h 0 v24 x9 v28).bind fun h30 =>
    (some (x9 + (1 : Int32))).bind fun v32 =>
    bX6_divide_133 x0 x1 x2 x4 x6 x7 n v32 h30)
def fX6_divide (x0 : Nat) (x1 : Int32) (x2 : Int32) (x3 : Int32) (x4 : Int32) (x5 : Int32) (h : hp_H) : Option (Int32 × hp_H) :=
  if hp_o h x0 6 = true then
  (hp_pv h x0 6 11 (.int (0 : Int32))).bind fun h1 =>
  (fX6_isRegister x1).bind fun v4 =>
  if v4 = 0 then (
    some ((-1 : Int32), h1))
  else (
    (fX6_isRegister x2).bind fun v7 =>
    if v7 = 0 then (
      some ((-1 : Int32), h1))
    else (
      (fX6_isRegister x3).bind fun v10 =>
      if v10 = 0 then (
        some ((-1 : Int32), h1))
      else (
        (fX6_isRegister x4).bind fun v13 =>
        if v13 = 0 then (
          some ((-1 : Int32), h1))
        else (
          if x1 = x2 then (
            some ((-1 : Int32), h1))
          else (
            (hp_gr h1 x0 6 2).bind fun v16 =>
            (hp_ai h1 0 v16 x4).bind fun v18 =>
            if v18 = 0 then (
              (hp_pv h1 x0 6 11 (.int (1 : Int32))).bind fun h50 =>
              some ((0 : Int32), h50))
            else (
              (hp_gr h1 x0 6 2).bind fun v21 =>
              (hp_ai h1 0 v21 x3).bind fun v23 =>
              (hp_gr h1 x0 6 2).bind fun v25 =>
              (hp_ai h1 0 v25 x4).bind fun v27 =>
              (fX6_toX x0 x3 h1).bind fun h30 =>
              (fX6_toY x0 x4 h30).bind fun h32 =>
              (fX6_split x0 h32).bind fun h34 =>
              if x5 = 0 then (
                bX6_divide_203 x0 x1 x2 v23 v27 v23 h34)
              else (
                (hp_gi h34 x0 6 8).bind fun v36 =>
                if v36 ≤ 0 then (
                  bX6_divide_203 x0 x1 x2 v23 v27 v23 h34)
                else (
                  if v23 = v27 then (
                    bX6_divide_203 x0 x1 x2 v23 v27 v23 h34)
                  else (
                    (hp_gr h34 x0 6 7).bind fun v40 =>
                    (hp_gi h34 x0 6 10).bind fun v42 =>
                    (fX6_scaled v40 v42 (1 : Int32) (1 : Int32) h34).bind fun (v46, h45) =>
                    (hp_pv h45 x0 6 10 (.int v46)).bind fun h48 =>
                    bX6_divide_133 x0 x1 x2 x4 v23 v27 hp_n (0 : Int32) h48)))))))))
  else none
theorem inX6_divide_X6 : ∀ w ∈ wsX60, w ∈ wsX6_divide := by decide +kernel
theorem lkX6_divide_f34 : Cond.fieldLink RX6 34 (TX6 8).1 (TX6 8).2.1 (TX6 8).2.2.1 ∈ wsX6_divide := by decide +kernel
theorem lkX6_divide_f55 : Cond.fieldLink RX6 55 (TX6 9).1 (TX6 9).2.1 (TX6 9).2.2.1 ∈ wsX6_divide := by decide +kernel
theorem lkX6_divide_f25 : Cond.fieldLink RX6 25 (TX6 6).1 (TX6 6).2.1 (TX6 6).2.2.1 ∈ wsX6_divide := by decide +kernel
theorem lkX6_divide_f28 : Cond.fieldLink RX6 28 (TX6 7).1 (TX6 7).2.1 (TX6 7).2.2.1 ∈ wsX6_divide := by decide +kernel
theorem lkX6_divide_f89 : Cond.fieldLink RX6 89 (TX6 10).1 (TX6 10).2.1 (TX6 10).2.2.1 ∈ wsX6_divide := by decide +kernel
theorem lkX6_divide_f22 : Cond.fieldLink RX6 22 (TX6 5).1 (TX6 5).2.1 (TX6 5).2.2.1 ∈ wsX6_divide := by decide +kernel
theorem lkX6_divide_f45 : Cond.fieldLink RX6 45 (TX6 11).1 (TX6 11).2.1 (TX6 11).2.2.1 ∈ wsX6_divide := by decide +kernel
theorem lkX6_divide_f16 : Cond.fieldLink RX6 16 (TX6 2).1 (TX6 2).2.1 (TX6 2).2.2.1 ∈ wsX6_divide := by decide +kernel
theorem ndX6_divide : yX6_divide.cls ≠ "java/lang/invoke/MethodHandle" ∧ yX6_divide.cls ≠ "java/lang/invoke/VarHandle" ∧ (parseMethodDescriptor yX6_divide.desc).map (fun d => d.parameters.length) = some 5 := by decide +kernel
set_option maxRecDepth 100000 in
set_option maxHeartbeats 4000000 in
theorem wX6_divide_206 {p : Program} {l : Launch} {e : Env} {s : State} {m : MethodId} {args : Array Value} {below : List Frame} {meth : Method} {c : Code} {G : hp_G} {h0 h' : hp_H} {r : Int32} (X : hp_X p s m args meth c cX6_divide 10 RX6 wsX6_divide (some .int) G)  {x0 : Nat} {x1 : Int32} {x2 : Int32} {x6 : Int32} {x7 : Int32} {x8 : Int32}   : ∀ (n : Nat) {x9 : Int32} {h : hp_H} {H : Heap} {locs : List Loc} {ls : Array Slot} (Y : hp_Y G h h0 s H locs) (hl : lv_has ls 10 [(0, .ref x0), (1, .int x1), (2, .int x2), (6, .int x6), (7, .int x7), (8, .int x8), (9, .int x9)]) (hF : bX6_divide_206 x0 x1 x2 x6 x7 x8 n x9 h = some (r, h')), W p l e rmX6_divide s m args below meth c H locs 0 0 (MQ below (va_Qi (fun r' u => r' = r ∧ u = h') (hp_B G h0) (hp_A h0)) args s 0 0 (hp_A h0)) (F0 m 206 ls []) := by
  intro n
  induction n with
  | zero =>
    intro x9 h H locs ls Y hl hF
    exact absurd (show none = some _ from hF) (by simp)
  | succ n ih =>
    intro x9 h H locs ls Y hl hF
    rw [bX6_divide_206] at hF
    refine lv_iload X.1 X.2.1 dX6_divide_206 (lv_at hl 6 rfl) ?_
    refine lv_aload_n X.1 X.2.1 dX6_divide_208 rfl (lv_at hl 0 rfl) ?_
    obtain ⟨v1, e2, hF⟩ := hp_b hF
    refine hp_geti X Y (C := RX6) (T := TX6) (N := 14) (ci := 6) (k := 8) rfl inX6_divide_X6 (by decide) lkX6_divide_f34 e2 dX6_divide_209 ?_
    refine lv_icmp_ge (tgt := 235) X.1 X.2.1 dX6_divide_212 (by decide) (fun c3 => ?_) (fun c3 => ?_)
    · have hF := hp_ifp (c3) hF
      refine lv_aload_n X.1 X.2.1 dX6_divide_235 rfl (lv_at hl 0 rfl) ?_
      refine lv_aload_n X.1 X.2.1 dX6_divide_236 rfl (lv_at hl 0 rfl) ?_
      obtain ⟨v4, e5, hF⟩ := hp_b hF
      refine hp_geti X Y (C := RX6) (T := TX6) (N := 14) (ci := 6) (k := 8) rfl inX6_divide_X6 (by decide) lkX6_divide_f34 e5 dX6_divide_237 ?_
      obtain ⟨h6, e7, hF⟩ := hp_b hF
      refine hp_put X Y (C := RX6) (T := TX6) (N := 14) (ci := 6) (k := 9) (ty0 := tyX6) rfl inX6_divide_X6 tyX6_ok nmX6 (by decide) lkX6_divide_f55 rfl rfl rfl e7 dX6_divide_240 (fun H locs Y => ?_)
      refine lv_aload_n X.1 X.2.1 dX6_divide_243 rfl (lv_at hl 0 rfl) ?_
      refine lv_iload_n X.1 X.2.1 dX6_divide_244 rfl (lv_at hl 2 rfl) ?_
      refine lv_aload_n X.1 X.2.1 dX6_divide_245 rfl (lv_at hl 0 rfl) ?_
      obtain ⟨v8, e9, hF⟩ := hp_b hF
      refine hp_getr X Y (C := RX6) (T := TX6) (N := 14) (ci := 6) (k := 6) rfl inX6_divide_X6 (by decide) lkX6_divide_f25 e9 dX6_divide_246 ?_
      refine lv_aload_n X.1 X.2.1 dX6_divide_249 rfl (lv_at hl 0 rfl) ?_
      obtain ⟨v10, e11, hF⟩ := hp_b hF
      refine hp_geti X Y (C := RX6) (T := TX6) (N := 14) (ci := 6) (k := 9) rfl inX6_divide_X6 (by decide) lkX6_divide_f55 e11 dX6_divide_250 ?_
      refine lv_iload X.1 X.2.1 dX6_divide_253 (lv_at hl 5 rfl) ?_
      obtain ⟨⟨v14, h13⟩, e12, hF⟩ := hp_b hF
      refine hp_ci Y (hp_runV X Y (ci := 6) (As := [.int x2, .ref v8, .int v10, .int x8]) (n := 4) (T := TX6) (N := 14) (mX6_put l G e12) rfl (oX6_put e12) gX6_divide_X6_put rfl rfl rfl ndX6_put ⟨Nat.le_of_ble_eq_true rfl, Nat.le_of_ble_eq_true rfl⟩ rfl hl.1 rfl (Nat.le_of_ble_eq_true rfl) dX6_divide_255 ⟨Nat.zero_le _, Nat.zero_le _⟩) (fun H locs Y => ?_)
      refine lv_istore (lv' := [(9, .int v14), (0, .ref x0), (1, .int x1), (2, .int x2), (6, .int x6), (7, .int x7), (8, .int x8)]) X.1 X.2.1 dX6_divide_258 hl (by decide) rfl (fun ls hl => ?_)
      refine lv_aload_n X.1 X.2.1 dX6_divide_260 rfl (lv_at hl 1 rfl) ?_
      refine lv_iload_n X.1 X.2.1 dX6_divide_261 rfl (lv_at hl 2 rfl) ?_
      refine lv_aload_n X.1 X.2.1 dX6_divide_262 rfl (lv_at hl 1 rfl) ?_
      obtain ⟨v16, e17, hF⟩ := hp_b hF
      refine hp_getr X Y (C := RX6) (T := TX6) (N := 14) (ci := 6) (k := 7) rfl inX6_divide_X6 (by decide) lkX6_divide_f28 e17 dX6_divide_263 ?_
      refine lv_aload_n X.1 X.2.1 dX6_divide_266 rfl (lv_at hl 1 rfl) ?_
      obtain ⟨v18, e19, hF⟩ := hp_b hF
      refine hp_geti X Y (C := RX6) (T := TX6) (N := 14) (ci := 6) (k := 10) rfl inX6_divide_X6 (by decide) lkX6_divide_f89 e19 dX6_divide_267 ?_
      refine lv_iload X.1 X.2.1 dX6_divide_270 (lv_at hl 4 rfl) ?_
      refine lv_iload X.1 X.2.1 dX6_divide_272 (lv_at hl 5 rfl) ?_
      refine lv_imul X.1 X.2.1 dX6_divide_274 ?_
      obtain ⟨⟨v22, h21⟩, e20, hF⟩ := hp_b hF
      refine hp_ci Y (hp_runV X Y (ci := 6) (As := [.int x1, .ref v16, .int v18, .int (x6 * x7)]) (n := 4) (T := TX6) (N := 14) (mX6_put l G e20) rfl (oX6_put e20) gX6_divide_X6_put rfl rfl rfl ndX6_put ⟨Nat.le_of_ble_eq_true rfl, Nat.le_of_ble_eq_true rfl⟩ rfl hl.1 rfl (Nat.le_of_ble_eq_true rfl) dX6_divide_275 ⟨Nat.zero_le _, Nat.zero_le _⟩) (fun H locs Y => ?_)
      cases hF
      exact hp_ri X Y rfl rfl dX6_divide_278
    · have hF := hp_ifn (c3) hF
      refine lv_aload_n X.1 X.2.1 dX6_divide_215 rfl (lv_at hl 0 rfl) ?_
      obtain ⟨v24, e25, hF⟩ := hp_b hF
      refine hp_getr X Y (C := RX6) (T := TX6) (N := 14) (ci := 6) (k := 6) rfl inX6_divide_X6 (by decide) lkX6_divide_f25 e25 dX6_divide_216 ?_
      refine lv_iload X.1 X.2.1 dX6_divide_219 (lv_at hl 6 rfl) ?_
      refine lv_aload_n X.1 X.2.1 dX6_divide_221 rfl (lv_at hl 0 rfl) ?_
      obtain ⟨v26, e27, hF⟩ := hp_b hF
      refine hp_getr X Y (C := RX6) (T := TX6) (N := 14) (ci := 6) (k := 5) rfl inX6_divide_X6 (by decide) lkX6_divide_f22 e27 dX6_divide_222 ?_
      refine lv_iload X.1 X.2.1 dX6_divide_225 (lv_at hl 6 rfl) ?_
      obtain ⟨v28, e29, hF⟩ := hp_b hF
      refine hp_iald X Y e29 dX6_divide_227 ?_
      obtain ⟨h30, e31, hF⟩ := hp_b hF
      refine hp_iast X Y e31 dX6_divide_228 (fun H locs Y => ?_)
      obtain ⟨v32, e33, hF⟩ := hp_b hF
      refine lv_iinc (v := v32) (lv' := [(9, .int v32), (0, .ref x0), (1, .int x1), (2, .int x2), (6, .int x6), (7, .int x7), (8, .int x8)]) X.1 X.2.1 dX6_divide_229 hl (k := 6) rfl (Option.some.inj e33) (by decide) rfl (fun ls hl => ?_)
      refine lv_goto (tgt := 206) X.1 X.2.1 dX6_divide_232 (by decide) ?_
      exact ih Y (lv_sub hl [1, 2, 3, 4, 5, 6, 0] rfl) hF
set_option maxRecDepth 100000 in
set_option maxHeartbeats 4000000 in
theorem wX6_divide_203 {p : Program} {l : Launch} {e : Env} {s : State} {m : MethodId} {args : Array Value} {below : List Frame} {meth : Method} {c : Code} {G : hp_G} {h0 h' : hp_H} {r : Int32} (X : hp_X p s m args meth c cX6_divide 10 RX6 wsX6_divide (some .int) G)  {x0 : Nat} {x1 : Int32} {x2 : Int32} {x6 : Int32} {x7 : Int32} {x8 : Int32}   {h : hp_H} {H : Heap} {locs : List Loc} {ls : Array Slot} (Y : hp_Y G h h0 s H locs) (hl : lv_has ls 10 [(0, .ref x0), (1, .int x1), (2, .int x2), (6, .int x6), (7, .int x7), (8, .int x8)]) (hF : bX6_divide_203 x0 x1 x2 x6 x7 x8 h = some (r, h')) : W p l e rmX6_divide s m args below meth c H locs 0 0 (MQ below (va_Qi (fun r' u => r' = r ∧ u = h') (hp_B G h0) (hp_A h0)) args s 0 0 (hp_A h0)) (F0 m 203 ls []) := by
  unfold bX6_divide_203 at hF
  refine lv_iconst (v := 0) X.1 X.2.1 dX6_divide_203 (by decide) ?_
  refine lv_istore (lv' := [(9, .int (0 : Int32)), (0, .ref x0), (1, .int x1), (2, .int x2), (6, .int x6), (7, .int x7), (8, .int x8)]) X.1 X.2.1 dX6_divide_204 hl (by decide) rfl (fun ls hl => ?_)
  exact wX6_divide_206 X  hp_n Y (lv_sub hl [1, 2, 3, 4, 5, 6, 0] rfl) hF
set_option maxRecDepth 100000 in
set_option maxHeartbeats 4000000 in
theorem wX6_divide_133 {p : Program} {l : Launch} {e : Env} {s : State} {m : MethodId} {args : Array Value} {below : List Frame} {meth : Method} {c : Code} {G : hp_G} {h0 h' : hp_H} {r : Int32} (X : hp_X p s m args meth c cX6_divide 10 RX6 wsX6_divide (some .int) G)  {x0 : Nat} {x1 : Int32} {x2 : Int32} {x4 : Int32} {x6 : Int32} {x7 : Int32}   : ∀ (n : Nat) {x9 : Int32} {h : hp_H} {H : Heap} {locs : List Loc} {ls : Array Slot} (Y : hp_Y G h h0 s H locs) (hl : lv_has ls 10 [(0, .ref x0), (1, .int x1), (2, .int x2), (4, .int x4), (6, .int x6), (7, .int x7), (9, .int x9)]) (hF : bX6_divide_133 x0 x1 x2 x4 x6 x7 n x9 h = some (r, h')), W p l e rmX6_divide s m args below meth c H locs 0 0 (MQ below (va_Qi (fun r' u => r' = r ∧ u = h') (hp_B G h0) (hp_A h0)) args s 0 0 (hp_A h0)) (F0 m 133 ls []) := by
  intro n
  induction n with
  | zero =>
    intro x9 h H locs ls Y hl hF
    exact absurd (show none = some _ from hF) (by simp)
  | succ n ih =>
    intro x9 h H locs ls Y hl hF
    rw [bX6_divide_133] at hF
    refine lv_iload X.1 X.2.1 dX6_divide_133 (lv_at hl 6 rfl) ?_
    refine lv_aload_n X.1 X.2.1 dX6_divide_135 rfl (lv_at hl 0 rfl) ?_
    obtain ⟨v1, e2, hF⟩ := hp_b hF
    refine hp_geti X Y (C := RX6) (T := TX6) (N := 14) (ci := 6) (k := 8) rfl inX6_divide_X6 (by decide) lkX6_divide_f34 e2 dX6_divide_136 ?_
    refine lv_icmp_ge (tgt := 162) X.1 X.2.1 dX6_divide_139 (by decide) (fun c3 => ?_) (fun c3 => ?_)
    · have hF := hp_ifp (c3) hF
      refine lv_aload_n X.1 X.2.1 dX6_divide_162 rfl (lv_at hl 0 rfl) ?_
      refine lv_aload_n X.1 X.2.1 dX6_divide_163 rfl (lv_at hl 0 rfl) ?_
      obtain ⟨v4, e5, hF⟩ := hp_b hF
      refine hp_geti X Y (C := RX6) (T := TX6) (N := 14) (ci := 6) (k := 8) rfl inX6_divide_X6 (by decide) lkX6_divide_f34 e5 dX6_divide_164 ?_
      obtain ⟨h6, e7, hF⟩ := hp_b hF
      refine hp_put X Y (C := RX6) (T := TX6) (N := 14) (ci := 6) (k := 9) (ty0 := tyX6) rfl inX6_divide_X6 tyX6_ok nmX6 (by decide) lkX6_divide_f55 rfl rfl rfl e7 dX6_divide_167 (fun H locs Y => ?_)
      refine lv_aload_n X.1 X.2.1 dX6_divide_170 rfl (lv_at hl 0 rfl) ?_
      refine lv_iload X.1 X.2.1 dX6_divide_171 (lv_at hl 3 rfl) ?_
      obtain ⟨h9, e8, hF⟩ := hp_b hF
      refine hp_cv Y (hp_runV X Y (ci := 6) (As := [.int x4]) (n := 1) (T := TX6) (N := 14) (mX6_toX l G e8) rfl (oX6_toX e8) gX6_divide_X6_toX rfl rfl rfl ndX6_toX ⟨Nat.le_of_ble_eq_true rfl, Nat.le_of_ble_eq_true rfl⟩ rfl hl.1 rfl (Nat.le_of_ble_eq_true rfl) dX6_divide_173 ⟨Nat.zero_le _, Nat.zero_le _⟩) (fun H locs Y => ?_)
      refine lv_aload_n X.1 X.2.1 dX6_divide_176 rfl (lv_at hl 0 rfl) ?_
      refine lv_aload_n X.1 X.2.1 dX6_divide_177 rfl (lv_at hl 0 rfl) ?_
      obtain ⟨v10, e11, hF⟩ := hp_b hF
      refine hp_getr X Y (C := RX6) (T := TX6) (N := 14) (ci := 6) (k := 5) rfl inX6_divide_X6 (by decide) lkX6_divide_f22 e11 dX6_divide_178 ?_
      refine lv_aload_n X.1 X.2.1 dX6_divide_181 rfl (lv_at hl 0 rfl) ?_
      obtain ⟨v12, e13, hF⟩ := hp_b hF
      refine hp_geti X Y (C := RX6) (T := TX6) (N := 14) (ci := 6) (k := 8) rfl inX6_divide_X6 (by decide) lkX6_divide_f34 e13 dX6_divide_182 ?_
      refine lv_aload_n X.1 X.2.1 dX6_divide_185 rfl (lv_at hl 0 rfl) ?_
      obtain ⟨v14, e15, hF⟩ := hp_b hF
      refine hp_getr X Y (C := RX6) (T := TX6) (N := 14) (ci := 6) (k := 6) rfl inX6_divide_X6 (by decide) lkX6_divide_f25 e15 dX6_divide_186 ?_
      refine lv_aload_n X.1 X.2.1 dX6_divide_189 rfl (lv_at hl 0 rfl) ?_
      obtain ⟨v16, e17, hF⟩ := hp_b hF
      refine hp_geti X Y (C := RX6) (T := TX6) (N := 14) (ci := 6) (k := 9) rfl inX6_divide_X6 (by decide) lkX6_divide_f55 e17 dX6_divide_190 ?_
      obtain ⟨⟨v20, h19⟩, e18, hF⟩ := hp_b hF
      refine hp_ci Y (hp_runS X Y (As := [.ref v10, .int v12, .ref v14, .int v16]) (n := 4) (mX6_taken l G e18) gX6_divide_X6_taken rfl rfl rfl ndX6_taken ⟨Nat.le_of_ble_eq_true rfl, Nat.le_of_ble_eq_true rfl⟩ rfl hl.1 rfl (Nat.le_of_ble_eq_true rfl) dX6_divide_193 ⟨Nat.zero_le _, Nat.zero_le _⟩) (fun H locs Y => ?_)
      obtain ⟨h22, e23, hF⟩ := hp_b hF
      refine hp_put X Y (C := RX6) (T := TX6) (N := 14) (ci := 6) (k := 8) (ty0 := tyX6) rfl inX6_divide_X6 tyX6_ok nmX6 (by decide) lkX6_divide_f34 rfl rfl rfl e23 dX6_divide_196 (fun H locs Y => ?_)
      refine lv_iload X.1 X.2.1 dX6_divide_199 (lv_at hl 5 rfl) ?_
      refine lv_istore (lv' := [(8, .int x7), (0, .ref x0), (1, .int x1), (2, .int x2), (4, .int x4), (6, .int x6), (7, .int x7), (9, .int x9)]) X.1 X.2.1 dX6_divide_201 hl (by decide) rfl (fun ls hl => ?_)
      exact wX6_divide_203 X  Y (lv_sub hl [1, 2, 3, 5, 6, 0] rfl) hF
    · have hF := hp_ifn (c3) hF
      refine lv_aload_n X.1 X.2.1 dX6_divide_142 rfl (lv_at hl 0 rfl) ?_
      obtain ⟨v24, e25, hF⟩ := hp_b hF
      refine hp_getr X Y (C := RX6) (T := TX6) (N := 14) (ci := 6) (k := 6) rfl inX6_divide_X6 (by decide) lkX6_divide_f25 e25 dX6_divide_143 ?_
      refine lv_iload X.1 X.2.1 dX6_divide_146 (lv_at hl 6 rfl) ?_
      refine lv_aload_n X.1 X.2.1 dX6_divide_148 rfl (lv_at hl 0 rfl) ?_
      obtain ⟨v26, e27, hF⟩ := hp_b hF
      refine hp_getr X Y (C := RX6) (T := TX6) (N := 14) (ci := 6) (k := 5) rfl inX6_divide_X6 (by decide) lkX6_divide_f22 e27 dX6_divide_149 ?_
      refine lv_iload X.1 X.2.1 dX6_divide_152 (lv_at hl 6 rfl) ?_
      obtain ⟨v28, e29, hF⟩ := hp_b hF
      refine hp_iald X Y e29 dX6_divide_154 ?_
      obtain ⟨h30, e31, hF⟩ := hp_b hF
      refine hp_iast X Y e31 dX6_divide_155 (fun H locs Y => ?_)
      obtain ⟨v32, e33, hF⟩ := hp_b hF
      refine lv_iinc (v := v32) (lv' := [(9, .int v32), (0, .ref x0), (1, .int x1), (2, .int x2), (4, .int x4), (6, .int x6), (7, .int x7)]) X.1 X.2.1 dX6_divide_156 hl (k := 6) rfl (Option.some.inj e33) (by decide) rfl (fun ls hl => ?_)
      refine lv_goto (tgt := 133) X.1 X.2.1 dX6_divide_159 (by decide) ?_
      exact ih Y (lv_sub hl [1, 2, 3, 4, 5, 6, 0] rfl) hF
theorem oX6_divide {x0 : Nat} {x1 : Int32} {x2 : Int32} {x3 : Int32} {x4 : Int32} {x5 : Int32} {h h' : hp_H} {r : Int32} (hF : fX6_divide x0 x1 x2 x3 x4 x5 h = some (r, h')) : hp_o h x0 6 = true := by
  unfold fX6_divide at hF
  exact (hp_ift hF).1
set_option maxRecDepth 100000 in
set_option maxHeartbeats 4000000 in
theorem mX6_divide (l : Launch) (G : hp_G) {x0 : Nat} {x1 : Int32} {x2 : Int32} {x3 : Int32} {x4 : Int32} {x5 : Int32} {h h' : hp_H} {r : Int32} (hF : fX6_divide x0 x1 x2 x3 x4 x5 h = some (r, h')) : Met l yX6_divide wsX6_divide rmX6_divide (va_Pc [.ref x0, .int x1, .int x2, .int x3, .int x4, .int x5] (hp_S G h)) (va_Qi (fun r' u => r' = r ∧ u = h') (hp_B G h) (hp_A h)) 0 0 (hp_A h) := by
  refine hp_met (cc := cX6_divide) (nL := 10) (ret := (some .int)) (by decide) rfl ?_
  intro p e s m below meth c X Y
  have hl := lv_entry ([.ref x0, .int x1, .int x2, .int x3, .int x4, .int x5]) (n := 10) (Nat.le_of_ble_eq_true rfl)
  rw [lg_entry_eq]
  generalize (lg_sl ([.ref x0, .int x1, .int x2, .int x3, .int x4, .int x5]) ++ List.replicate (10 - (lg_sl ([.ref x0, .int x1, .int x2, .int x3, .int x4, .int x5])).length) Slot.unset).toArray = ls at hl ⊢
  have hl : lv_has ls 10 [(0, .ref x0), (1, .int x1), (2, .int x2), (3, .int x3), (4, .int x4), (5, .int x5)] := hl
  unfold fX6_divide at hF
  obtain ⟨ho, hF⟩ := hp_ift hF
  refine lv_aload_n X.1 X.2.1 dX6_divide_0 rfl (lv_at hl 0 rfl) ?_
  refine lv_iconst (v := 0) X.1 X.2.1 dX6_divide_1 (by decide) ?_
  obtain ⟨h1, e2, hF⟩ := hp_b hF
  refine hp_put X Y (C := RX6) (T := TX6) (N := 14) (ci := 6) (k := 11) (ty0 := tyX6) rfl inX6_divide_X6 tyX6_ok nmX6 (by decide) lkX6_divide_f45 rfl rfl rfl e2 dX6_divide_2 (fun H locs Y => ?_)
  refine lv_iload_n X.1 X.2.1 dX6_divide_5 rfl (lv_at hl 1 rfl) ?_
  obtain ⟨v4, e3, hF⟩ := hp_b hF
  refine hp_ci Y (hp_runS X Y (As := [.int x1]) (n := 1) (mX6_isRegister l G e3) gX6_divide_X6_isRegister rfl rfl rfl ndX6_isRegister ⟨Nat.le_of_ble_eq_true rfl, Nat.le_of_ble_eq_true rfl⟩ rfl hl.1 rfl (Nat.le_of_ble_eq_true rfl) dX6_divide_6 ⟨Nat.zero_le _, Nat.zero_le _⟩) (fun H locs Y => ?_)
  refine lv_if_eq (tgt := 39) X.1 X.2.1 dX6_divide_9 (by decide) (fun c5 => ?_) (fun c5 => ?_)
  · have hF := hp_ifp (c5) hF
    refine lv_iconst (v := -1) X.1 X.2.1 dX6_divide_39 (by decide) ?_
    cases hF
    exact hp_ri X Y rfl rfl dX6_divide_40
  · have hF := hp_ifn (c5) hF
    refine lv_iload_n X.1 X.2.1 dX6_divide_12 rfl (lv_at hl 2 rfl) ?_
    obtain ⟨v7, e6, hF⟩ := hp_b hF
    refine hp_ci Y (hp_runS X Y (As := [.int x2]) (n := 1) (mX6_isRegister l G e6) gX6_divide_X6_isRegister rfl rfl rfl ndX6_isRegister ⟨Nat.le_of_ble_eq_true rfl, Nat.le_of_ble_eq_true rfl⟩ rfl hl.1 rfl (Nat.le_of_ble_eq_true rfl) dX6_divide_13 ⟨Nat.zero_le _, Nat.zero_le _⟩) (fun H locs Y => ?_)
    refine lv_if_eq (tgt := 39) X.1 X.2.1 dX6_divide_16 (by decide) (fun c8 => ?_) (fun c8 => ?_)
    · have hF := hp_ifp (c8) hF
      refine lv_iconst (v := -1) X.1 X.2.1 dX6_divide_39 (by decide) ?_
      cases hF
      exact hp_ri X Y rfl rfl dX6_divide_40
    · have hF := hp_ifn (c8) hF
      refine lv_iload_n X.1 X.2.1 dX6_divide_19 rfl (lv_at hl 3 rfl) ?_
      obtain ⟨v10, e9, hF⟩ := hp_b hF
      refine hp_ci Y (hp_runS X Y (As := [.int x3]) (n := 1) (mX6_isRegister l G e9) gX6_divide_X6_isRegister rfl rfl rfl ndX6_isRegister ⟨Nat.le_of_ble_eq_true rfl, Nat.le_of_ble_eq_true rfl⟩ rfl hl.1 rfl (Nat.le_of_ble_eq_true rfl) dX6_divide_20 ⟨Nat.zero_le _, Nat.zero_le _⟩) (fun H locs Y => ?_)
      refine lv_if_eq (tgt := 39) X.1 X.2.1 dX6_divide_23 (by decide) (fun c11 => ?_) (fun c11 => ?_)
      · have hF := hp_ifp (c11) hF
        refine lv_iconst (v := -1) X.1 X.2.1 dX6_divide_39 (by decide) ?_
        cases hF
        exact hp_ri X Y rfl rfl dX6_divide_40
      · have hF := hp_ifn (c11) hF
        refine lv_iload X.1 X.2.1 dX6_divide_26 (lv_at hl 4 rfl) ?_
        obtain ⟨v13, e12, hF⟩ := hp_b hF
        refine hp_ci Y (hp_runS X Y (As := [.int x4]) (n := 1) (mX6_isRegister l G e12) gX6_divide_X6_isRegister rfl rfl rfl ndX6_isRegister ⟨Nat.le_of_ble_eq_true rfl, Nat.le_of_ble_eq_true rfl⟩ rfl hl.1 rfl (Nat.le_of_ble_eq_true rfl) dX6_divide_28 ⟨Nat.zero_le _, Nat.zero_le _⟩) (fun H locs Y => ?_)
        refine lv_if_eq (tgt := 39) X.1 X.2.1 dX6_divide_31 (by decide) (fun c14 => ?_) (fun c14 => ?_)
        · have hF := hp_ifp (c14) hF
          refine lv_iconst (v := -1) X.1 X.2.1 dX6_divide_39 (by decide) ?_
          cases hF
          exact hp_ri X Y rfl rfl dX6_divide_40
        · have hF := hp_ifn (c14) hF
          refine lv_iload_n X.1 X.2.1 dX6_divide_34 rfl (lv_at hl 1 rfl) ?_
          refine lv_iload_n X.1 X.2.1 dX6_divide_35 rfl (lv_at hl 2 rfl) ?_
          refine lv_icmp_ne (tgt := 41) X.1 X.2.1 dX6_divide_36 (by decide) (fun c15 => ?_) (fun c15 => ?_)
          · have hF := hp_ifn (c15) hF
            refine lv_aload_n X.1 X.2.1 dX6_divide_41 rfl (lv_at hl 0 rfl) ?_
            obtain ⟨v16, e17, hF⟩ := hp_b hF
            refine hp_getr X Y (C := RX6) (T := TX6) (N := 14) (ci := 6) (k := 2) rfl inX6_divide_X6 (by decide) lkX6_divide_f16 e17 dX6_divide_42 ?_
            refine lv_iload X.1 X.2.1 dX6_divide_45 (lv_at hl 4 rfl) ?_
            obtain ⟨v18, e19, hF⟩ := hp_b hF
            refine hp_iald X Y e19 dX6_divide_47 ?_
            refine lv_if_ne (tgt := 58) X.1 X.2.1 dX6_divide_48 (by decide) (fun c20 => ?_) (fun c20 => ?_)
            · have hF := hp_ifn (c20) hF
              refine lv_aload_n X.1 X.2.1 dX6_divide_58 rfl (lv_at hl 0 rfl) ?_
              obtain ⟨v21, e22, hF⟩ := hp_b hF
              refine hp_getr X Y (C := RX6) (T := TX6) (N := 14) (ci := 6) (k := 2) rfl inX6_divide_X6 (by decide) lkX6_divide_f16 e22 dX6_divide_59 ?_
              refine lv_iload_n X.1 X.2.1 dX6_divide_62 rfl (lv_at hl 3 rfl) ?_
              obtain ⟨v23, e24, hF⟩ := hp_b hF
              refine hp_iald X Y e24 dX6_divide_63 ?_
              refine lv_istore (lv' := [(6, .int v23), (0, .ref x0), (1, .int x1), (2, .int x2), (3, .int x3), (4, .int x4), (5, .int x5)]) X.1 X.2.1 dX6_divide_64 hl (by decide) rfl (fun ls hl => ?_)
              refine lv_aload_n X.1 X.2.1 dX6_divide_66 rfl (lv_at hl 1 rfl) ?_
              obtain ⟨v25, e26, hF⟩ := hp_b hF
              refine hp_getr X Y (C := RX6) (T := TX6) (N := 14) (ci := 6) (k := 2) rfl inX6_divide_X6 (by decide) lkX6_divide_f16 e26 dX6_divide_67 ?_
              refine lv_iload X.1 X.2.1 dX6_divide_70 (lv_at hl 5 rfl) ?_
              obtain ⟨v27, e28, hF⟩ := hp_b hF
              refine hp_iald X Y e28 dX6_divide_72 ?_
              refine lv_istore (lv' := [(7, .int v27), (6, .int v23), (0, .ref x0), (1, .int x1), (2, .int x2), (3, .int x3), (4, .int x4), (5, .int x5)]) X.1 X.2.1 dX6_divide_73 hl (by decide) rfl (fun ls hl => ?_)
              refine lv_aload_n X.1 X.2.1 dX6_divide_75 rfl (lv_at hl 2 rfl) ?_
              refine lv_iload_n X.1 X.2.1 dX6_divide_76 rfl (lv_at hl 5 rfl) ?_
              obtain ⟨h30, e29, hF⟩ := hp_b hF
              refine hp_cv Y (hp_runV X Y (ci := 6) (As := [.int x3]) (n := 1) (T := TX6) (N := 14) (mX6_toX l G e29) rfl (oX6_toX e29) gX6_divide_X6_toX rfl rfl rfl ndX6_toX ⟨Nat.le_of_ble_eq_true rfl, Nat.le_of_ble_eq_true rfl⟩ rfl hl.1 rfl (Nat.le_of_ble_eq_true rfl) dX6_divide_77 ⟨Nat.zero_le _, Nat.zero_le _⟩) (fun H locs Y => ?_)
              refine lv_aload_n X.1 X.2.1 dX6_divide_80 rfl (lv_at hl 2 rfl) ?_
              refine lv_iload X.1 X.2.1 dX6_divide_81 (lv_at hl 6 rfl) ?_
              obtain ⟨h32, e31, hF⟩ := hp_b hF
              refine hp_cv Y (hp_runV X Y (ci := 6) (As := [.int x4]) (n := 1) (T := TX6) (N := 14) (mX6_toY l G e31) rfl (oX6_toY e31) gX6_divide_X6_toY rfl rfl rfl ndX6_toY ⟨Nat.le_of_ble_eq_true rfl, Nat.le_of_ble_eq_true rfl⟩ rfl hl.1 rfl (Nat.le_of_ble_eq_true rfl) dX6_divide_83 ⟨Nat.zero_le _, Nat.zero_le _⟩) (fun H locs Y => ?_)
              refine lv_aload_n X.1 X.2.1 dX6_divide_86 rfl (lv_at hl 2 rfl) ?_
              obtain ⟨h34, e33, hF⟩ := hp_b hF
              refine hp_cv Y (hp_runV X Y (ci := 6) (As := []) (n := 0) (T := TX6) (N := 14) (mX6_split l G e33) rfl (oX6_split e33) gX6_divide_X6_split rfl rfl rfl ndX6_split ⟨Nat.le_of_ble_eq_true rfl, Nat.le_of_ble_eq_true rfl⟩ rfl hl.1 rfl (Nat.le_of_ble_eq_true rfl) dX6_divide_87 ⟨Nat.zero_le _, Nat.zero_le _⟩) (fun H locs Y => ?_)
              refine lv_iload X.1 X.2.1 dX6_divide_90 (lv_at hl 1 rfl) ?_
              refine lv_istore (lv' := [(8, .int v23), (7, .int v27), (6, .int v23), (0, .ref x0), (1, .int x1), (2, .int x2), (3, .int x3), (4, .int x4), (5, .int x5)]) X.1 X.2.1 dX6_divide_92 hl (by decide) rfl (fun ls hl => ?_)
              refine lv_iload X.1 X.2.1 dX6_divide_94 (lv_at hl 8 rfl) ?_
              refine lv_if_eq (tgt := 203) X.1 X.2.1 dX6_divide_96 (by decide) (fun c35 => ?_) (fun c35 => ?_)
              · have hF := hp_ifp (c35) hF
                exact wX6_divide_203 X  Y (lv_sub hl [3, 4, 5, 2, 1, 0] rfl) hF
              · have hF := hp_ifn (c35) hF
                refine lv_aload_n X.1 X.2.1 dX6_divide_99 rfl (lv_at hl 3 rfl) ?_
                obtain ⟨v36, e37, hF⟩ := hp_b hF
                refine hp_geti X Y (C := RX6) (T := TX6) (N := 14) (ci := 6) (k := 8) rfl inX6_divide_X6 (by decide) lkX6_divide_f34 e37 dX6_divide_100 ?_
                refine lv_if_le (tgt := 203) X.1 X.2.1 dX6_divide_103 (by decide) (fun c38 => ?_) (fun c38 => ?_)
                · have hF := hp_ifp (c38) hF
                  exact wX6_divide_203 X  Y (lv_sub hl [3, 4, 5, 2, 1, 0] rfl) hF
                · have hF := hp_ifn (c38) hF
                  refine lv_iload X.1 X.2.1 dX6_divide_106 (lv_at hl 2 rfl) ?_
                  refine lv_iload X.1 X.2.1 dX6_divide_108 (lv_at hl 1 rfl) ?_
                  refine lv_icmp_eq (tgt := 203) X.1 X.2.1 dX6_divide_110 (by decide) (fun c39 => ?_) (fun c39 => ?_)
                  · have hF := hp_ifp (c39) hF
                    exact wX6_divide_203 X  Y (lv_sub hl [3, 4, 5, 2, 1, 0] rfl) hF
                  · have hF := hp_ifn (c39) hF
                    refine lv_aload_n X.1 X.2.1 dX6_divide_113 rfl (lv_at hl 3 rfl) ?_
                    refine lv_aload_n X.1 X.2.1 dX6_divide_114 rfl (lv_at hl 3 rfl) ?_
                    obtain ⟨v40, e41, hF⟩ := hp_b hF
                    refine hp_getr X Y (C := RX6) (T := TX6) (N := 14) (ci := 6) (k := 7) rfl inX6_divide_X6 (by decide) lkX6_divide_f28 e41 dX6_divide_115 ?_
                    refine lv_aload_n X.1 X.2.1 dX6_divide_118 rfl (lv_at hl 3 rfl) ?_
                    obtain ⟨v42, e43, hF⟩ := hp_b hF
                    refine hp_geti X Y (C := RX6) (T := TX6) (N := 14) (ci := 6) (k := 10) rfl inX6_divide_X6 (by decide) lkX6_divide_f89 e43 dX6_divide_119 ?_
                    refine lv_iconst (v := 1) X.1 X.2.1 dX6_divide_122 (by decide) ?_
                    refine lv_iconst (v := 1) X.1 X.2.1 dX6_divide_123 (by decide) ?_
                    obtain ⟨⟨v46, h45⟩, e44, hF⟩ := hp_b hF
                    refine hp_ci Y (hp_runS X Y (As := [.ref v40, .int v42, .int (1 : Int32), .int (1 : Int32)]) (n := 4) (mX6_scaled l G e44) gX6_divide_X6_scaled rfl rfl rfl ndX6_scaled ⟨Nat.le_of_ble_eq_true rfl, Nat.le_of_ble_eq_true rfl⟩ rfl hl.1 rfl (Nat.le_of_ble_eq_true rfl) dX6_divide_124 ⟨Nat.zero_le _, Nat.zero_le _⟩) (fun H locs Y => ?_)
                    obtain ⟨h48, e49, hF⟩ := hp_b hF
                    refine hp_put X Y (C := RX6) (T := TX6) (N := 14) (ci := 6) (k := 10) (ty0 := tyX6) rfl inX6_divide_X6 tyX6_ok nmX6 (by decide) lkX6_divide_f89 rfl rfl rfl e49 dX6_divide_127 (fun H locs Y => ?_)
                    refine lv_iconst (v := 0) X.1 X.2.1 dX6_divide_130 (by decide) ?_
                    refine lv_istore (lv' := [(9, .int (0 : Int32)), (8, .int v23), (7, .int v27), (6, .int v23), (0, .ref x0), (1, .int x1), (2, .int x2), (3, .int x3), (4, .int x4), (5, .int x5)]) X.1 X.2.1 dX6_divide_131 hl (by decide) rfl (fun ls hl => ?_)
                    exact wX6_divide_133 X  hp_n Y (lv_sub hl [4, 5, 6, 8, 3, 2, 0] rfl) hF
            · have hF := hp_ifp (c20) hF
              refine lv_aload_n X.1 X.2.1 dX6_divide_51 rfl (lv_at hl 0 rfl) ?_
              refine lv_iconst (v := 1) X.1 X.2.1 dX6_divide_52 (by decide) ?_
              obtain ⟨h50, e51, hF⟩ := hp_b hF
              refine hp_put X Y (C := RX6) (T := TX6) (N := 14) (ci := 6) (k := 11) (ty0 := tyX6) rfl inX6_divide_X6 tyX6_ok nmX6 (by decide) lkX6_divide_f45 rfl rfl rfl e51 dX6_divide_53 (fun H locs Y => ?_)
              refine lv_iconst (v := 0) X.1 X.2.1 dX6_divide_56 (by decide) ?_
              cases hF
              exact hp_ri X Y rfl rfl dX6_divide_57
          · have hF := hp_ifp (c15) hF
            refine lv_iconst (v := -1) X.1 X.2.1 dX6_divide_39 (by decide) ?_
            cases hF
            exact hp_ri X Y rfl rfl dX6_divide_40

/-! WholeNumbersModel.gcd -/
def rmX6_gcd : Room := { frames := 4, cells := 0, slots := 0, locals := 93 }
def bX6_gcd_336  (x0 : Nat) (x1 : Int32) (x4 : Int32) : Nat → Int32 → hp_H → Option (Int32 × hp_H)
  | 0, _, _ => none
  | n + 1, x5, h =>
  if x4 ≤ x5 then (
    (hp_gr h x0 6 6).bind fun v2 =>
    (hp_gi h x0 6 9).bind fun v4 =>
    (fX6_put x0 x1 v2 v4 (1 : Int32) h).bind fun (v8, h7) =>
    some (v8, h7))
  else (
    (hp_gr h x0 6 6).bind fun v10 =>
    (hp_gi h x0 6 9).bind fun v12 =>
    (fX6_twice v10 v12 h).bind fun (v16, h15) =>
    (hp_pv h15 x0 6 9 (.int v16)).bind fun h18 =>
    (some (x5 + (1 : Int32))).bind fun v20 =>
    bX6_gcd_336 x0 x1 x4 n v20 h18)
def bX6_gcd_227 (k188 : hp_H → Option (Int32 × hp_H)) (x0 : Nat) (x1 : Int32) (x4 : Int32) : Nat → hp_H → Option (Int32 × hp_H)
  | 0, _ => none
  | n + 1, h =>
  (hp_gr h x0 6 6).bind fun v1 =>
  (hp_gi h x0 6 9).bind fun v3 =>
  (fX6_isOdd v1 v3 h).bind fun v6 =>
  if v6 = 0 then (
    (hp_gr h x0 6 6).bind fun v47 =>
    (hp_gi h x0 6 9).bind fun v49 =>
    (fX6_half v47 v49 h).bind fun (v53, h52) =>
    (hp_pv h52 x0 6 9 (.int v53)).bind fun h55 =>
    bX6_gcd_227 k188 x0 x1 x4 n h55)
  else (
    (hp_gr h x0 6 5).bind fun v8 =>
    (hp_gi h x0 6 8).bind fun v10 =>
    (hp_gr h x0 6 6).bind fun v12 =>
    (hp_gi h x0 6 9).bind fun v14 =>
    (fX6_compareRows v8 v10 v12 v14 h).bind fun v17 =>
    if v17 < 0 then (
      (hp_gr h x0 6 6).bind fun v19 =>
      (hp_gi h x0 6 9).bind fun v21 =>
      (hp_gr h x0 6 5).bind fun v23 =>
      (hp_gi h x0 6 8).bind fun v25 =>
      (fX6_taken v19 v21 v23 v25 h).bind fun (v29, h28) =>
      (hp_pv h28 x0 6 9 (.int v29)).bind fun h31 =>
      k188 h31)
    else (
      (hp_gr h x0 6 5).bind fun v33 =>
      (hp_gi h x0 6 8).bind fun v35 =>
      (hp_gr h x0 6 6).bind fun v37 =>
      (hp_gi h x0 6 9).bind fun v39 =>
      (fX6_taken v33 v35 v37 v39 h).bind fun (v43, h42) =>
      (hp_pv h42 x0 6 8 (.int v43)).bind fun h45 =>
      k188 h45))
def bX6_gcd_195 (k188 : hp_H → Option (Int32 × hp_H)) (x0 : Nat) (x1 : Int32) (x4 : Int32) : Nat → hp_H → Option (Int32 × hp_H)
  | 0, _ => none
  | n + 1, h =>
  (hp_gr h x0 6 5).bind fun v1 =>
  (hp_gi h x0 6 8).bind fun v3 =>
  (fX6_isOdd v1 v3 h).bind fun v6 =>
  if v6 = 0 then (
    (hp_gr h x0 6 5).bind fun v8 =>
    (hp_gi h x0 6 8).bind fun v10 =>
    (fX6_half v8 v10 h).bind fun (v14, h13) =>
    (hp_pv h13 x0 6 8 (.int v14)).bind fun h16 =>
    bX6_gcd_195 k188 x0 x1 x4 n h16)
  else (
    bX6_gcd_227 k188 x0 x1 x4 hp_n h)
def bX6_gcd_188  (x0 : Nat) (x1 : Int32) (x4 : Int32) : Nat → hp_H → Option (Int32 × hp_H)
  | 0, _ => none
  | n + 1, h =>
  (hp_gi h x0 6 8).bind fun v1 =>
  if v1 ≤ 0 then (
    bX6_gcd_336 x0 x1 x4 hp_n (0 : Int32) h)
  else (
    bX6_gcd_195 (bX6_gcd_188 x0 x1 x4 n) x0 x1 x4 hp_n h)
def bX6_gcd_124  (x0 : Nat) (x1 : Int32) : Nat → Int32 → hp_H → Option (Int32 × hp_H)
  | 0, _, _ => none
  | n + 1, x4, h =>
  (hp_gr h x0 6 5).bind fun v1 =>
  (hp_gi h x0 6 8).bind fun v3 =>
  (fX6_isOdd v1 v3 h).bind fun v6 =>
  if v6 = 0 then (
    (hp_gr h x0 6 6).bind fun v8 =>
    (hp_gi h x0 6 9).bind fun v10 =>
    (fX6_isOdd v8 v10 h).bind fun v13 =>
    if v13 = 0 then (
      (hp_gr h x0 6 5).bind fun v15 =>
      (hp_gi h x0 6 8).bind fun v17 =>
      (fX6_half v15 v17 h).bind fun (v21, h20) =>
      (hp_pv h20 x0 6 8 (.int v21)).bind fun h23 =>
      (hp_gr h23 x0 6 6).bind fun v25 =>
      (hp_gi h23 x0 6 9).bind fun v27 =>
      (fX6_half v25 v27 h23).bind fun (v31, h30) =>
      (hp_pv h30 x0 6 9 (.int v31)).bind fun h33 =>
      (some (x4 + (1 : Int32))).bind fun v35 =>
      bX6_gcd_124 x0 x1 n v35 h33)
    else (
      bX6_gcd_188 x0 x1 x4 hp_n h))
  else (
    bX6_gcd_188 x0 x1 x4 hp_n h)
def bX6_gcd_77  (x0 : Nat) (x1 : Int32) : Nat → Int32 → hp_H → Option (Int32 × hp_H)
  | 0, _, _ => none
  | n + 1, x4, h =>
  (hp_gi h x0 6 8).bind fun v1 =>
  if v1 ≤ x4 then (
    (hp_gr h x0 6 6).bind fun v4 =>
    (hp_gi h x0 6 8).bind fun v6 =>
    (fX6_put x0 x1 v4 v6 (1 : Int32) h).bind fun (v10, h9) =>
    some (v10, h9))
  else (
    (hp_gr h x0 6 6).bind fun v12 =>
    (hp_gr h x0 6 5).bind fun v14 =>
    (hp_ai h 0 v14 x4).bind fun v16 =>
    (hp_si h 0 v12 x4 v16).bind fun h18 =>
    (some (x4 + (1 : Int32))).bind fun v20 =>
    bX6_gcd_77 x0 x1 n v20 h18)
def bX6_gcd_52  (x0 : Nat) (x1 : Int32)  (h : hp_H) : Option (Int32 × hp_H) :=
  (hp_gi h x0 6 8).bind fun v1 =>
  if v1 = 0 then (
    (hp_gr h x0 6 6).bind fun v4 =>
    (hp_gi h x0 6 9).bind fun v6 =>
    (fX6_put x0 x1 v4 v6 (1 : Int32) h).bind fun (v10, h9) =>
    some (v10, h9))
  else (
    bX6_gcd_77 x0 x1 hp_n (0 : Int32) h)
def fX6_gcd (x0 : Nat) (x1 : Int32) (x2 : Int32) (x3 : Int32) (h : hp_H) : Option (Int32 × hp_H) :=
  if hp_o h x0 6 = true then
  (hp_pv h x0 6 11 (.int (0 : Int32))).bind fun h1 =>
  (fX6_isRegister x1).bind fun v4 =>
  if v4 = 0 then (
    some ((-1 : Int32), h1))
  else (
    (fX6_isRegister x2).bind fun v7 =>
    if v7 = 0 then (
      some ((-1 : Int32), h1))
    else (
      (fX6_isRegister x3).bind fun v10 =>
      if v10 = 0 then (
        some ((-1 : Int32), h1))
      else (
        (fX6_toX x0 x2 h1).bind fun h13 =>
        (fX6_toY x0 x3 h13).bind fun h15 =>
        (hp_gi h15 x0 6 8).bind fun v16 =>
        if v16 = 0 then (
          bX6_gcd_52 x0 x1 h15)
        else (
          (hp_gi h15 x0 6 9).bind fun v19 =>
          if v19 = 0 then (
            bX6_gcd_52 x0 x1 h15)
          else (
            bX6_gcd_124 x0 x1 hp_n (0 : Int32) h15)))))
  else none
theorem inX6_gcd_X6 : ∀ w ∈ wsX60, w ∈ wsX6_gcd := by decide +kernel
theorem lkX6_gcd_f25 : Cond.fieldLink RX6 25 (TX6 6).1 (TX6 6).2.1 (TX6 6).2.2.1 ∈ wsX6_gcd := by decide +kernel
theorem lkX6_gcd_f55 : Cond.fieldLink RX6 55 (TX6 9).1 (TX6 9).2.1 (TX6 9).2.2.1 ∈ wsX6_gcd := by decide +kernel
theorem lkX6_gcd_f22 : Cond.fieldLink RX6 22 (TX6 5).1 (TX6 5).2.1 (TX6 5).2.2.1 ∈ wsX6_gcd := by decide +kernel
theorem lkX6_gcd_f34 : Cond.fieldLink RX6 34 (TX6 8).1 (TX6 8).2.1 (TX6 8).2.2.1 ∈ wsX6_gcd := by decide +kernel
theorem lkX6_gcd_f45 : Cond.fieldLink RX6 45 (TX6 11).1 (TX6 11).2.1 (TX6 11).2.2.1 ∈ wsX6_gcd := by decide +kernel
theorem ndX6_gcd : yX6_gcd.cls ≠ "java/lang/invoke/MethodHandle" ∧ yX6_gcd.cls ≠ "java/lang/invoke/VarHandle" ∧ (parseMethodDescriptor yX6_gcd.desc).map (fun d => d.parameters.length) = some 3 := by decide +kernel
set_option maxRecDepth 100000 in
set_option maxHeartbeats 4000000 in
theorem wX6_gcd_336 {p : Program} {l : Launch} {e : Env} {s : State} {m : MethodId} {args : Array Value} {below : List Frame} {meth : Method} {c : Code} {G : hp_G} {h0 h' : hp_H} {r : Int32} (X : hp_X p s m args meth c cX6_gcd 6 RX6 wsX6_gcd (some .int) G)  {x0 : Nat} {x1 : Int32} {x4 : Int32}   : ∀ (n : Nat) {x5 : Int32} {h : hp_H} {H : Heap} {locs : List Loc} {ls : Array Slot} (Y : hp_Y G h h0 s H locs) (hl : lv_has ls 6 [(0, .ref x0), (1, .int x1), (4, .int x4), (5, .int x5)]) (hF : bX6_gcd_336 x0 x1 x4 n x5 h = some (r, h')), W p l e rmX6_gcd s m args below meth c H locs 0 0 (MQ below (va_Qi (fun r' u => r' = r ∧ u = h') (hp_B G h0) (hp_A h0)) args s 0 0 (hp_A h0)) (F0 m 336 ls []) := by
  intro n
  induction n with
  | zero =>
    intro x5 h H locs ls Y hl hF
    exact absurd (show none = some _ from hF) (by simp)
  | succ n ih =>
    intro x5 h H locs ls Y hl hF
    rw [bX6_gcd_336] at hF
    refine lv_iload X.1 X.2.1 dX6_gcd_336 (lv_at hl 3 rfl) ?_
    refine lv_iload X.1 X.2.1 dX6_gcd_338 (lv_at hl 2 rfl) ?_
    refine lv_icmp_ge (tgt := 364) X.1 X.2.1 dX6_gcd_340 (by decide) (fun c1 => ?_) (fun c1 => ?_)
    · have hF := hp_ifp (c1) hF
      refine lv_aload_n X.1 X.2.1 dX6_gcd_364 rfl (lv_at hl 0 rfl) ?_
      refine lv_iload_n X.1 X.2.1 dX6_gcd_365 rfl (lv_at hl 1 rfl) ?_
      refine lv_aload_n X.1 X.2.1 dX6_gcd_366 rfl (lv_at hl 0 rfl) ?_
      obtain ⟨v2, e3, hF⟩ := hp_b hF
      refine hp_getr X Y (C := RX6) (T := TX6) (N := 14) (ci := 6) (k := 6) rfl inX6_gcd_X6 (by decide) lkX6_gcd_f25 e3 dX6_gcd_367 ?_
      refine lv_aload_n X.1 X.2.1 dX6_gcd_370 rfl (lv_at hl 0 rfl) ?_
      obtain ⟨v4, e5, hF⟩ := hp_b hF
      refine hp_geti X Y (C := RX6) (T := TX6) (N := 14) (ci := 6) (k := 9) rfl inX6_gcd_X6 (by decide) lkX6_gcd_f55 e5 dX6_gcd_371 ?_
      refine lv_iconst (v := 1) X.1 X.2.1 dX6_gcd_374 (by decide) ?_
      obtain ⟨⟨v8, h7⟩, e6, hF⟩ := hp_b hF
      refine hp_ci Y (hp_runV X Y (ci := 6) (As := [.int x1, .ref v2, .int v4, .int (1 : Int32)]) (n := 4) (T := TX6) (N := 14) (mX6_put l G e6) rfl (oX6_put e6) gX6_gcd_X6_put rfl rfl rfl ndX6_put ⟨Nat.le_of_ble_eq_true rfl, Nat.le_of_ble_eq_true rfl⟩ rfl hl.1 rfl (Nat.le_of_ble_eq_true rfl) dX6_gcd_375 ⟨Nat.zero_le _, Nat.zero_le _⟩) (fun H locs Y => ?_)
      cases hF
      exact hp_ri X Y rfl rfl dX6_gcd_378
    · have hF := hp_ifn (c1) hF
      refine lv_aload_n X.1 X.2.1 dX6_gcd_343 rfl (lv_at hl 0 rfl) ?_
      refine lv_aload_n X.1 X.2.1 dX6_gcd_344 rfl (lv_at hl 0 rfl) ?_
      obtain ⟨v10, e11, hF⟩ := hp_b hF
      refine hp_getr X Y (C := RX6) (T := TX6) (N := 14) (ci := 6) (k := 6) rfl inX6_gcd_X6 (by decide) lkX6_gcd_f25 e11 dX6_gcd_345 ?_
      refine lv_aload_n X.1 X.2.1 dX6_gcd_348 rfl (lv_at hl 0 rfl) ?_
      obtain ⟨v12, e13, hF⟩ := hp_b hF
      refine hp_geti X Y (C := RX6) (T := TX6) (N := 14) (ci := 6) (k := 9) rfl inX6_gcd_X6 (by decide) lkX6_gcd_f55 e13 dX6_gcd_349 ?_
      obtain ⟨⟨v16, h15⟩, e14, hF⟩ := hp_b hF
      refine hp_ci Y (hp_runS X Y (As := [.ref v10, .int v12]) (n := 2) (mX6_twice l G e14) gX6_gcd_X6_twice rfl rfl rfl ndX6_twice ⟨Nat.le_of_ble_eq_true rfl, Nat.le_of_ble_eq_true rfl⟩ rfl hl.1 rfl (Nat.le_of_ble_eq_true rfl) dX6_gcd_352 ⟨Nat.zero_le _, Nat.zero_le _⟩) (fun H locs Y => ?_)
      obtain ⟨h18, e19, hF⟩ := hp_b hF
      refine hp_put X Y (C := RX6) (T := TX6) (N := 14) (ci := 6) (k := 9) (ty0 := tyX6) rfl inX6_gcd_X6 tyX6_ok nmX6 (by decide) lkX6_gcd_f55 rfl rfl rfl e19 dX6_gcd_355 (fun H locs Y => ?_)
      obtain ⟨v20, e21, hF⟩ := hp_b hF
      refine lv_iinc (v := v20) (lv' := [(5, .int v20), (0, .ref x0), (1, .int x1), (4, .int x4)]) X.1 X.2.1 dX6_gcd_358 hl (k := 3) rfl (Option.some.inj e21) (by decide) rfl (fun ls hl => ?_)
      refine lv_goto (tgt := 336) X.1 X.2.1 dX6_gcd_361 (by decide) ?_
      exact ih Y (lv_sub hl [1, 2, 3, 0] rfl) hF
set_option maxRecDepth 100000 in
set_option maxHeartbeats 4000000 in
theorem wX6_gcd_227 {p : Program} {l : Launch} {e : Env} {s : State} {m : MethodId} {args : Array Value} {below : List Frame} {meth : Method} {c : Code} {G : hp_G} {h0 h' : hp_H} {r : Int32} (X : hp_X p s m args meth c cX6_gcd 6 RX6 wsX6_gcd (some .int) G) {k188 : hp_H → Option (Int32 × hp_H)} {x0 : Nat} {x1 : Int32} {x4 : Int32}  (hk188 : ∀  (h : hp_H) (H : Heap) (locs : List Loc) (ls : Array Slot), hp_Y G h h0 s H locs → lv_has ls 6 [(0, .ref x0), (1, .int x1), (4, .int x4)] → k188 h = some (r, h') → W p l e rmX6_gcd s m args below meth c H locs 0 0 (MQ below (va_Qi (fun r' u => r' = r ∧ u = h') (hp_B G h0) (hp_A h0)) args s 0 0 (hp_A h0)) (F0 m 188 ls [])) : ∀ (n : Nat) {h : hp_H} {H : Heap} {locs : List Loc} {ls : Array Slot} (Y : hp_Y G h h0 s H locs) (hl : lv_has ls 6 [(0, .ref x0), (1, .int x1), (4, .int x4)]) (hF : bX6_gcd_227 k188 x0 x1 x4 n h = some (r, h')), W p l e rmX6_gcd s m args below meth c H locs 0 0 (MQ below (va_Qi (fun r' u => r' = r ∧ u = h') (hp_B G h0) (hp_A h0)) args s 0 0 (hp_A h0)) (F0 m 227 ls []) := by
  intro n
  induction n with
  | zero =>
    intro h H locs ls Y hl hF
    exact absurd (show none = some _ from hF) (by simp)
  | succ n ih =>
    intro h H locs ls Y hl hF
    rw [bX6_gcd_227] at hF
    refine lv_aload_n X.1 X.2.1 dX6_gcd_227 rfl (lv_at hl 0 rfl) ?_
    obtain ⟨v1, e2, hF⟩ := hp_b hF
    refine hp_getr X Y (C := RX6) (T := TX6) (N := 14) (ci := 6) (k := 6) rfl inX6_gcd_X6 (by decide) lkX6_gcd_f25 e2 dX6_gcd_228 ?_
    refine lv_aload_n X.1 X.2.1 dX6_gcd_231 rfl (lv_at hl 0 rfl) ?_
    obtain ⟨v3, e4, hF⟩ := hp_b hF
    refine hp_geti X Y (C := RX6) (T := TX6) (N := 14) (ci := 6) (k := 9) rfl inX6_gcd_X6 (by decide) lkX6_gcd_f55 e4 dX6_gcd_232 ?_
    obtain ⟨v6, e5, hF⟩ := hp_b hF
    refine hp_ci Y (hp_runS X Y (As := [.ref v1, .int v3]) (n := 2) (mX6_isOdd l G e5) gX6_gcd_X6_isOdd rfl rfl rfl ndX6_isOdd ⟨Nat.le_of_ble_eq_true rfl, Nat.le_of_ble_eq_true rfl⟩ rfl hl.1 rfl (Nat.le_of_ble_eq_true rfl) dX6_gcd_235 ⟨Nat.zero_le _, Nat.zero_le _⟩) (fun H locs Y => ?_)
    refine lv_if_ne (tgt := 259) X.1 X.2.1 dX6_gcd_238 (by decide) (fun c7 => ?_) (fun c7 => ?_)
    · have hF := hp_ifn (c7) hF
      refine lv_aload_n X.1 X.2.1 dX6_gcd_259 rfl (lv_at hl 0 rfl) ?_
      obtain ⟨v8, e9, hF⟩ := hp_b hF
      refine hp_getr X Y (C := RX6) (T := TX6) (N := 14) (ci := 6) (k := 5) rfl inX6_gcd_X6 (by decide) lkX6_gcd_f22 e9 dX6_gcd_260 ?_
      refine lv_aload_n X.1 X.2.1 dX6_gcd_263 rfl (lv_at hl 0 rfl) ?_
      obtain ⟨v10, e11, hF⟩ := hp_b hF
      refine hp_geti X Y (C := RX6) (T := TX6) (N := 14) (ci := 6) (k := 8) rfl inX6_gcd_X6 (by decide) lkX6_gcd_f34 e11 dX6_gcd_264 ?_
      refine lv_aload_n X.1 X.2.1 dX6_gcd_267 rfl (lv_at hl 0 rfl) ?_
      obtain ⟨v12, e13, hF⟩ := hp_b hF
      refine hp_getr X Y (C := RX6) (T := TX6) (N := 14) (ci := 6) (k := 6) rfl inX6_gcd_X6 (by decide) lkX6_gcd_f25 e13 dX6_gcd_268 ?_
      refine lv_aload_n X.1 X.2.1 dX6_gcd_271 rfl (lv_at hl 0 rfl) ?_
      obtain ⟨v14, e15, hF⟩ := hp_b hF
      refine hp_geti X Y (C := RX6) (T := TX6) (N := 14) (ci := 6) (k := 9) rfl inX6_gcd_X6 (by decide) lkX6_gcd_f55 e15 dX6_gcd_272 ?_
      obtain ⟨v17, e16, hF⟩ := hp_b hF
      refine hp_ci Y (hp_runS X Y (As := [.ref v8, .int v10, .ref v12, .int v14]) (n := 4) (mX6_compareRows l G e16) gX6_gcd_X6_compareRows rfl rfl rfl ndX6_compareRows ⟨Nat.le_of_ble_eq_true rfl, Nat.le_of_ble_eq_true rfl⟩ rfl hl.1 rfl (Nat.le_of_ble_eq_true rfl) dX6_gcd_275 ⟨Nat.zero_le _, Nat.zero_le _⟩) (fun H locs Y => ?_)
      refine lv_if_lt (tgt := 307) X.1 X.2.1 dX6_gcd_278 (by decide) (fun c18 => ?_) (fun c18 => ?_)
      · have hF := hp_ifp (c18) hF
        refine lv_aload_n X.1 X.2.1 dX6_gcd_307 rfl (lv_at hl 0 rfl) ?_
        refine lv_aload_n X.1 X.2.1 dX6_gcd_308 rfl (lv_at hl 0 rfl) ?_
        obtain ⟨v19, e20, hF⟩ := hp_b hF
        refine hp_getr X Y (C := RX6) (T := TX6) (N := 14) (ci := 6) (k := 6) rfl inX6_gcd_X6 (by decide) lkX6_gcd_f25 e20 dX6_gcd_309 ?_
        refine lv_aload_n X.1 X.2.1 dX6_gcd_312 rfl (lv_at hl 0 rfl) ?_
        obtain ⟨v21, e22, hF⟩ := hp_b hF
        refine hp_geti X Y (C := RX6) (T := TX6) (N := 14) (ci := 6) (k := 9) rfl inX6_gcd_X6 (by decide) lkX6_gcd_f55 e22 dX6_gcd_313 ?_
        refine lv_aload_n X.1 X.2.1 dX6_gcd_316 rfl (lv_at hl 0 rfl) ?_
        obtain ⟨v23, e24, hF⟩ := hp_b hF
        refine hp_getr X Y (C := RX6) (T := TX6) (N := 14) (ci := 6) (k := 5) rfl inX6_gcd_X6 (by decide) lkX6_gcd_f22 e24 dX6_gcd_317 ?_
        refine lv_aload_n X.1 X.2.1 dX6_gcd_320 rfl (lv_at hl 0 rfl) ?_
        obtain ⟨v25, e26, hF⟩ := hp_b hF
        refine hp_geti X Y (C := RX6) (T := TX6) (N := 14) (ci := 6) (k := 8) rfl inX6_gcd_X6 (by decide) lkX6_gcd_f34 e26 dX6_gcd_321 ?_
        obtain ⟨⟨v29, h28⟩, e27, hF⟩ := hp_b hF
        refine hp_ci Y (hp_runS X Y (As := [.ref v19, .int v21, .ref v23, .int v25]) (n := 4) (mX6_taken l G e27) gX6_gcd_X6_taken rfl rfl rfl ndX6_taken ⟨Nat.le_of_ble_eq_true rfl, Nat.le_of_ble_eq_true rfl⟩ rfl hl.1 rfl (Nat.le_of_ble_eq_true rfl) dX6_gcd_324 ⟨Nat.zero_le _, Nat.zero_le _⟩) (fun H locs Y => ?_)
        obtain ⟨h31, e32, hF⟩ := hp_b hF
        refine hp_put X Y (C := RX6) (T := TX6) (N := 14) (ci := 6) (k := 9) (ty0 := tyX6) rfl inX6_gcd_X6 tyX6_ok nmX6 (by decide) lkX6_gcd_f55 rfl rfl rfl e32 dX6_gcd_327 (fun H locs Y => ?_)
        refine lv_goto (tgt := 188) X.1 X.2.1 dX6_gcd_330 (by decide) ?_
        exact hk188 _  _ _ _ Y (lv_sub hl [0, 1, 2] rfl) hF
      · have hF := hp_ifn (c18) hF
        refine lv_aload_n X.1 X.2.1 dX6_gcd_281 rfl (lv_at hl 0 rfl) ?_
        refine lv_aload_n X.1 X.2.1 dX6_gcd_282 rfl (lv_at hl 0 rfl) ?_
        obtain ⟨v33, e34, hF⟩ := hp_b hF
        refine hp_getr X Y (C := RX6) (T := TX6) (N := 14) (ci := 6) (k := 5) rfl inX6_gcd_X6 (by decide) lkX6_gcd_f22 e34 dX6_gcd_283 ?_
        refine lv_aload_n X.1 X.2.1 dX6_gcd_286 rfl (lv_at hl 0 rfl) ?_
        obtain ⟨v35, e36, hF⟩ := hp_b hF
        refine hp_geti X Y (C := RX6) (T := TX6) (N := 14) (ci := 6) (k := 8) rfl inX6_gcd_X6 (by decide) lkX6_gcd_f34 e36 dX6_gcd_287 ?_
        refine lv_aload_n X.1 X.2.1 dX6_gcd_290 rfl (lv_at hl 0 rfl) ?_
        obtain ⟨v37, e38, hF⟩ := hp_b hF
        refine hp_getr X Y (C := RX6) (T := TX6) (N := 14) (ci := 6) (k := 6) rfl inX6_gcd_X6 (by decide) lkX6_gcd_f25 e38 dX6_gcd_291 ?_
        refine lv_aload_n X.1 X.2.1 dX6_gcd_294 rfl (lv_at hl 0 rfl) ?_
        obtain ⟨v39, e40, hF⟩ := hp_b hF
        refine hp_geti X Y (C := RX6) (T := TX6) (N := 14) (ci := 6) (k := 9) rfl inX6_gcd_X6 (by decide) lkX6_gcd_f55 e40 dX6_gcd_295 ?_
        obtain ⟨⟨v43, h42⟩, e41, hF⟩ := hp_b hF
        refine hp_ci Y (hp_runS X Y (As := [.ref v33, .int v35, .ref v37, .int v39]) (n := 4) (mX6_taken l G e41) gX6_gcd_X6_taken rfl rfl rfl ndX6_taken ⟨Nat.le_of_ble_eq_true rfl, Nat.le_of_ble_eq_true rfl⟩ rfl hl.1 rfl (Nat.le_of_ble_eq_true rfl) dX6_gcd_298 ⟨Nat.zero_le _, Nat.zero_le _⟩) (fun H locs Y => ?_)
        obtain ⟨h45, e46, hF⟩ := hp_b hF
        refine hp_put X Y (C := RX6) (T := TX6) (N := 14) (ci := 6) (k := 8) (ty0 := tyX6) rfl inX6_gcd_X6 tyX6_ok nmX6 (by decide) lkX6_gcd_f34 rfl rfl rfl e46 dX6_gcd_301 (fun H locs Y => ?_)
        refine lv_goto (tgt := 188) X.1 X.2.1 dX6_gcd_304 (by decide) ?_
        exact hk188 _  _ _ _ Y (lv_sub hl [0, 1, 2] rfl) hF
    · have hF := hp_ifp (c7) hF
      refine lv_aload_n X.1 X.2.1 dX6_gcd_241 rfl (lv_at hl 0 rfl) ?_
      refine lv_aload_n X.1 X.2.1 dX6_gcd_242 rfl (lv_at hl 0 rfl) ?_
      obtain ⟨v47, e48, hF⟩ := hp_b hF
      refine hp_getr X Y (C := RX6) (T := TX6) (N := 14) (ci := 6) (k := 6) rfl inX6_gcd_X6 (by decide) lkX6_gcd_f25 e48 dX6_gcd_243 ?_
      refine lv_aload_n X.1 X.2.1 dX6_gcd_246 rfl (lv_at hl 0 rfl) ?_
      obtain ⟨v49, e50, hF⟩ := hp_b hF
      refine hp_geti X Y (C := RX6) (T := TX6) (N := 14) (ci := 6) (k := 9) rfl inX6_gcd_X6 (by decide) lkX6_gcd_f55 e50 dX6_gcd_247 ?_
      obtain ⟨⟨v53, h52⟩, e51, hF⟩ := hp_b hF
      refine hp_ci Y (hp_runS X Y (As := [.ref v47, .int v49]) (n := 2) (mX6_half l G e51) gX6_gcd_X6_half rfl rfl rfl ndX6_half ⟨Nat.le_of_ble_eq_true rfl, Nat.le_of_ble_eq_true rfl⟩ rfl hl.1 rfl (Nat.le_of_ble_eq_true rfl) dX6_gcd_250 ⟨Nat.zero_le _, Nat.zero_le _⟩) (fun H locs Y => ?_)
      obtain ⟨h55, e56, hF⟩ := hp_b hF
      refine hp_put X Y (C := RX6) (T := TX6) (N := 14) (ci := 6) (k := 9) (ty0 := tyX6) rfl inX6_gcd_X6 tyX6_ok nmX6 (by decide) lkX6_gcd_f55 rfl rfl rfl e56 dX6_gcd_253 (fun H locs Y => ?_)
      refine lv_goto (tgt := 227) X.1 X.2.1 dX6_gcd_256 (by decide) ?_
      exact ih Y (lv_sub hl [0, 1, 2] rfl) hF
set_option maxRecDepth 100000 in
set_option maxHeartbeats 4000000 in
theorem wX6_gcd_195 {p : Program} {l : Launch} {e : Env} {s : State} {m : MethodId} {args : Array Value} {below : List Frame} {meth : Method} {c : Code} {G : hp_G} {h0 h' : hp_H} {r : Int32} (X : hp_X p s m args meth c cX6_gcd 6 RX6 wsX6_gcd (some .int) G) {k188 : hp_H → Option (Int32 × hp_H)} {x0 : Nat} {x1 : Int32} {x4 : Int32}  (hk188 : ∀  (h : hp_H) (H : Heap) (locs : List Loc) (ls : Array Slot), hp_Y G h h0 s H locs → lv_has ls 6 [(0, .ref x0), (1, .int x1), (4, .int x4)] → k188 h = some (r, h') → W p l e rmX6_gcd s m args below meth c H locs 0 0 (MQ below (va_Qi (fun r' u => r' = r ∧ u = h') (hp_B G h0) (hp_A h0)) args s 0 0 (hp_A h0)) (F0 m 188 ls [])) : ∀ (n : Nat) {h : hp_H} {H : Heap} {locs : List Loc} {ls : Array Slot} (Y : hp_Y G h h0 s H locs) (hl : lv_has ls 6 [(0, .ref x0), (1, .int x1), (4, .int x4)]) (hF : bX6_gcd_195 k188 x0 x1 x4 n h = some (r, h')), W p l e rmX6_gcd s m args below meth c H locs 0 0 (MQ below (va_Qi (fun r' u => r' = r ∧ u = h') (hp_B G h0) (hp_A h0)) args s 0 0 (hp_A h0)) (F0 m 195 ls []) := by
  intro n
  induction n with
  | zero =>
    intro h H locs ls Y hl hF
    exact absurd (show none = some _ from hF) (by simp)
  | succ n ih =>
    intro h H locs ls Y hl hF
    rw [bX6_gcd_195] at hF
    refine lv_aload_n X.1 X.2.1 dX6_gcd_195 rfl (lv_at hl 0 rfl) ?_
    obtain ⟨v1, e2, hF⟩ := hp_b hF
    refine hp_getr X Y (C := RX6) (T := TX6) (N := 14) (ci := 6) (k := 5) rfl inX6_gcd_X6 (by decide) lkX6_gcd_f22 e2 dX6_gcd_196 ?_
    refine lv_aload_n X.1 X.2.1 dX6_gcd_199 rfl (lv_at hl 0 rfl) ?_
    obtain ⟨v3, e4, hF⟩ := hp_b hF
    refine hp_geti X Y (C := RX6) (T := TX6) (N := 14) (ci := 6) (k := 8) rfl inX6_gcd_X6 (by decide) lkX6_gcd_f34 e4 dX6_gcd_200 ?_
    obtain ⟨v6, e5, hF⟩ := hp_b hF
    refine hp_ci Y (hp_runS X Y (As := [.ref v1, .int v3]) (n := 2) (mX6_isOdd l G e5) gX6_gcd_X6_isOdd rfl rfl rfl ndX6_isOdd ⟨Nat.le_of_ble_eq_true rfl, Nat.le_of_ble_eq_true rfl⟩ rfl hl.1 rfl (Nat.le_of_ble_eq_true rfl) dX6_gcd_203 ⟨Nat.zero_le _, Nat.zero_le _⟩) (fun H locs Y => ?_)
    refine lv_if_ne (tgt := 227) X.1 X.2.1 dX6_gcd_206 (by decide) (fun c7 => ?_) (fun c7 => ?_)
    · have hF := hp_ifn (c7) hF
      exact wX6_gcd_227 X hk188 hp_n Y (lv_sub hl [0, 1, 2] rfl) hF
    · have hF := hp_ifp (c7) hF
      refine lv_aload_n X.1 X.2.1 dX6_gcd_209 rfl (lv_at hl 0 rfl) ?_
      refine lv_aload_n X.1 X.2.1 dX6_gcd_210 rfl (lv_at hl 0 rfl) ?_
      obtain ⟨v8, e9, hF⟩ := hp_b hF
      refine hp_getr X Y (C := RX6) (T := TX6) (N := 14) (ci := 6) (k := 5) rfl inX6_gcd_X6 (by decide) lkX6_gcd_f22 e9 dX6_gcd_211 ?_
      refine lv_aload_n X.1 X.2.1 dX6_gcd_214 rfl (lv_at hl 0 rfl) ?_
      obtain ⟨v10, e11, hF⟩ := hp_b hF
      refine hp_geti X Y (C := RX6) (T := TX6) (N := 14) (ci := 6) (k := 8) rfl inX6_gcd_X6 (by decide) lkX6_gcd_f34 e11 dX6_gcd_215 ?_
      obtain ⟨⟨v14, h13⟩, e12, hF⟩ := hp_b hF
      refine hp_ci Y (hp_runS X Y (As := [.ref v8, .int v10]) (n := 2) (mX6_half l G e12) gX6_gcd_X6_half rfl rfl rfl ndX6_half ⟨Nat.le_of_ble_eq_true rfl, Nat.le_of_ble_eq_true rfl⟩ rfl hl.1 rfl (Nat.le_of_ble_eq_true rfl) dX6_gcd_218 ⟨Nat.zero_le _, Nat.zero_le _⟩) (fun H locs Y => ?_)
      obtain ⟨h16, e17, hF⟩ := hp_b hF
      refine hp_put X Y (C := RX6) (T := TX6) (N := 14) (ci := 6) (k := 8) (ty0 := tyX6) rfl inX6_gcd_X6 tyX6_ok nmX6 (by decide) lkX6_gcd_f34 rfl rfl rfl e17 dX6_gcd_221 (fun H locs Y => ?_)
      refine lv_goto (tgt := 195) X.1 X.2.1 dX6_gcd_224 (by decide) ?_
      exact ih Y (lv_sub hl [0, 1, 2] rfl) hF
set_option maxRecDepth 100000 in
set_option maxHeartbeats 4000000 in
theorem wX6_gcd_188 {p : Program} {l : Launch} {e : Env} {s : State} {m : MethodId} {args : Array Value} {below : List Frame} {meth : Method} {c : Code} {G : hp_G} {h0 h' : hp_H} {r : Int32} (X : hp_X p s m args meth c cX6_gcd 6 RX6 wsX6_gcd (some .int) G)  {x0 : Nat} {x1 : Int32} {x4 : Int32}   : ∀ (n : Nat) {h : hp_H} {H : Heap} {locs : List Loc} {ls : Array Slot} (Y : hp_Y G h h0 s H locs) (hl : lv_has ls 6 [(0, .ref x0), (1, .int x1), (4, .int x4)]) (hF : bX6_gcd_188 x0 x1 x4 n h = some (r, h')), W p l e rmX6_gcd s m args below meth c H locs 0 0 (MQ below (va_Qi (fun r' u => r' = r ∧ u = h') (hp_B G h0) (hp_A h0)) args s 0 0 (hp_A h0)) (F0 m 188 ls []) := by
  intro n
  induction n with
  | zero =>
    intro h H locs ls Y hl hF
    exact absurd (show none = some _ from hF) (by simp)
  | succ n ih =>
    intro h H locs ls Y hl hF
    rw [bX6_gcd_188] at hF
    refine lv_aload_n X.1 X.2.1 dX6_gcd_188 rfl (lv_at hl 0 rfl) ?_
    obtain ⟨v1, e2, hF⟩ := hp_b hF
    refine hp_geti X Y (C := RX6) (T := TX6) (N := 14) (ci := 6) (k := 8) rfl inX6_gcd_X6 (by decide) lkX6_gcd_f34 e2 dX6_gcd_189 ?_
    refine lv_if_le (tgt := 333) X.1 X.2.1 dX6_gcd_192 (by decide) (fun c3 => ?_) (fun c3 => ?_)
    · have hF := hp_ifp (c3) hF
      refine lv_iconst (v := 0) X.1 X.2.1 dX6_gcd_333 (by decide) ?_
      refine lv_istore (lv' := [(5, .int (0 : Int32)), (0, .ref x0), (1, .int x1), (4, .int x4)]) X.1 X.2.1 dX6_gcd_334 hl (by decide) rfl (fun ls hl => ?_)
      exact wX6_gcd_336 X  hp_n Y (lv_sub hl [1, 2, 3, 0] rfl) hF
    · have hF := hp_ifn (c3) hF
      exact wX6_gcd_195 X (fun _ _ _ _ Y hl hF => ih Y hl hF) hp_n Y (lv_sub hl [0, 1, 2] rfl) hF
set_option maxRecDepth 100000 in
set_option maxHeartbeats 4000000 in
theorem wX6_gcd_124 {p : Program} {l : Launch} {e : Env} {s : State} {m : MethodId} {args : Array Value} {below : List Frame} {meth : Method} {c : Code} {G : hp_G} {h0 h' : hp_H} {r : Int32} (X : hp_X p s m args meth c cX6_gcd 6 RX6 wsX6_gcd (some .int) G)  {x0 : Nat} {x1 : Int32}   : ∀ (n : Nat) {x4 : Int32} {h : hp_H} {H : Heap} {locs : List Loc} {ls : Array Slot} (Y : hp_Y G h h0 s H locs) (hl : lv_has ls 6 [(0, .ref x0), (1, .int x1), (4, .int x4)]) (hF : bX6_gcd_124 x0 x1 n x4 h = some (r, h')), W p l e rmX6_gcd s m args below meth c H locs 0 0 (MQ below (va_Qi (fun r' u => r' = r ∧ u = h') (hp_B G h0) (hp_A h0)) args s 0 0 (hp_A h0)) (F0 m 124 ls []) := by
  intro n
  induction n with
  | zero =>
    intro x4 h H locs ls Y hl hF
    exact absurd (show none = some _ from hF) (by simp)
  | succ n ih =>
    intro x4 h H locs ls Y hl hF
    rw [bX6_gcd_124] at hF
    refine lv_aload_n X.1 X.2.1 dX6_gcd_124 rfl (lv_at hl 0 rfl) ?_
    obtain ⟨v1, e2, hF⟩ := hp_b hF
    refine hp_getr X Y (C := RX6) (T := TX6) (N := 14) (ci := 6) (k := 5) rfl inX6_gcd_X6 (by decide) lkX6_gcd_f22 e2 dX6_gcd_125 ?_
    refine lv_aload_n X.1 X.2.1 dX6_gcd_128 rfl (lv_at hl 0 rfl) ?_
    obtain ⟨v3, e4, hF⟩ := hp_b hF
    refine hp_geti X Y (C := RX6) (T := TX6) (N := 14) (ci := 6) (k := 8) rfl inX6_gcd_X6 (by decide) lkX6_gcd_f34 e4 dX6_gcd_129 ?_
    obtain ⟨v6, e5, hF⟩ := hp_b hF
    refine hp_ci Y (hp_runS X Y (As := [.ref v1, .int v3]) (n := 2) (mX6_isOdd l G e5) gX6_gcd_X6_isOdd rfl rfl rfl ndX6_isOdd ⟨Nat.le_of_ble_eq_true rfl, Nat.le_of_ble_eq_true rfl⟩ rfl hl.1 rfl (Nat.le_of_ble_eq_true rfl) dX6_gcd_132 ⟨Nat.zero_le _, Nat.zero_le _⟩) (fun H locs Y => ?_)
    refine lv_if_ne (tgt := 188) X.1 X.2.1 dX6_gcd_135 (by decide) (fun c7 => ?_) (fun c7 => ?_)
    · have hF := hp_ifn (c7) hF
      exact wX6_gcd_188 X  hp_n Y (lv_sub hl [0, 1, 2] rfl) hF
    · have hF := hp_ifp (c7) hF
      refine lv_aload_n X.1 X.2.1 dX6_gcd_138 rfl (lv_at hl 0 rfl) ?_
      obtain ⟨v8, e9, hF⟩ := hp_b hF
      refine hp_getr X Y (C := RX6) (T := TX6) (N := 14) (ci := 6) (k := 6) rfl inX6_gcd_X6 (by decide) lkX6_gcd_f25 e9 dX6_gcd_139 ?_
      refine lv_aload_n X.1 X.2.1 dX6_gcd_142 rfl (lv_at hl 0 rfl) ?_
      obtain ⟨v10, e11, hF⟩ := hp_b hF
      refine hp_geti X Y (C := RX6) (T := TX6) (N := 14) (ci := 6) (k := 9) rfl inX6_gcd_X6 (by decide) lkX6_gcd_f55 e11 dX6_gcd_143 ?_
      obtain ⟨v13, e12, hF⟩ := hp_b hF
      refine hp_ci Y (hp_runS X Y (As := [.ref v8, .int v10]) (n := 2) (mX6_isOdd l G e12) gX6_gcd_X6_isOdd rfl rfl rfl ndX6_isOdd ⟨Nat.le_of_ble_eq_true rfl, Nat.le_of_ble_eq_true rfl⟩ rfl hl.1 rfl (Nat.le_of_ble_eq_true rfl) dX6_gcd_146 ⟨Nat.zero_le _, Nat.zero_le _⟩) (fun H locs Y => ?_)
      refine lv_if_ne (tgt := 188) X.1 X.2.1 dX6_gcd_149 (by decide) (fun c14 => ?_) (fun c14 => ?_)
      · have hF := hp_ifn (c14) hF
        exact wX6_gcd_188 X  hp_n Y (lv_sub hl [0, 1, 2] rfl) hF
      · have hF := hp_ifp (c14) hF
        refine lv_aload_n X.1 X.2.1 dX6_gcd_152 rfl (lv_at hl 0 rfl) ?_
        refine lv_aload_n X.1 X.2.1 dX6_gcd_153 rfl (lv_at hl 0 rfl) ?_
        obtain ⟨v15, e16, hF⟩ := hp_b hF
        refine hp_getr X Y (C := RX6) (T := TX6) (N := 14) (ci := 6) (k := 5) rfl inX6_gcd_X6 (by decide) lkX6_gcd_f22 e16 dX6_gcd_154 ?_
        refine lv_aload_n X.1 X.2.1 dX6_gcd_157 rfl (lv_at hl 0 rfl) ?_
        obtain ⟨v17, e18, hF⟩ := hp_b hF
        refine hp_geti X Y (C := RX6) (T := TX6) (N := 14) (ci := 6) (k := 8) rfl inX6_gcd_X6 (by decide) lkX6_gcd_f34 e18 dX6_gcd_158 ?_
        obtain ⟨⟨v21, h20⟩, e19, hF⟩ := hp_b hF
        refine hp_ci Y (hp_runS X Y (As := [.ref v15, .int v17]) (n := 2) (mX6_half l G e19) gX6_gcd_X6_half rfl rfl rfl ndX6_half ⟨Nat.le_of_ble_eq_true rfl, Nat.le_of_ble_eq_true rfl⟩ rfl hl.1 rfl (Nat.le_of_ble_eq_true rfl) dX6_gcd_161 ⟨Nat.zero_le _, Nat.zero_le _⟩) (fun H locs Y => ?_)
        obtain ⟨h23, e24, hF⟩ := hp_b hF
        refine hp_put X Y (C := RX6) (T := TX6) (N := 14) (ci := 6) (k := 8) (ty0 := tyX6) rfl inX6_gcd_X6 tyX6_ok nmX6 (by decide) lkX6_gcd_f34 rfl rfl rfl e24 dX6_gcd_164 (fun H locs Y => ?_)
        refine lv_aload_n X.1 X.2.1 dX6_gcd_167 rfl (lv_at hl 0 rfl) ?_
        refine lv_aload_n X.1 X.2.1 dX6_gcd_168 rfl (lv_at hl 0 rfl) ?_
        obtain ⟨v25, e26, hF⟩ := hp_b hF
        refine hp_getr X Y (C := RX6) (T := TX6) (N := 14) (ci := 6) (k := 6) rfl inX6_gcd_X6 (by decide) lkX6_gcd_f25 e26 dX6_gcd_169 ?_
        refine lv_aload_n X.1 X.2.1 dX6_gcd_172 rfl (lv_at hl 0 rfl) ?_
        obtain ⟨v27, e28, hF⟩ := hp_b hF
        refine hp_geti X Y (C := RX6) (T := TX6) (N := 14) (ci := 6) (k := 9) rfl inX6_gcd_X6 (by decide) lkX6_gcd_f55 e28 dX6_gcd_173 ?_
        obtain ⟨⟨v31, h30⟩, e29, hF⟩ := hp_b hF
        refine hp_ci Y (hp_runS X Y (As := [.ref v25, .int v27]) (n := 2) (mX6_half l G e29) gX6_gcd_X6_half rfl rfl rfl ndX6_half ⟨Nat.le_of_ble_eq_true rfl, Nat.le_of_ble_eq_true rfl⟩ rfl hl.1 rfl (Nat.le_of_ble_eq_true rfl) dX6_gcd_176 ⟨Nat.zero_le _, Nat.zero_le _⟩) (fun H locs Y => ?_)
        obtain ⟨h33, e34, hF⟩ := hp_b hF
        refine hp_put X Y (C := RX6) (T := TX6) (N := 14) (ci := 6) (k := 9) (ty0 := tyX6) rfl inX6_gcd_X6 tyX6_ok nmX6 (by decide) lkX6_gcd_f55 rfl rfl rfl e34 dX6_gcd_179 (fun H locs Y => ?_)
        obtain ⟨v35, e36, hF⟩ := hp_b hF
        refine lv_iinc (v := v35) (lv' := [(4, .int v35), (0, .ref x0), (1, .int x1)]) X.1 X.2.1 dX6_gcd_182 hl (k := 2) rfl (Option.some.inj e36) (by decide) rfl (fun ls hl => ?_)
        refine lv_goto (tgt := 124) X.1 X.2.1 dX6_gcd_185 (by decide) ?_
        exact ih Y (lv_sub hl [1, 2, 0] rfl) hF
set_option maxRecDepth 100000 in
set_option maxHeartbeats 4000000 in
theorem wX6_gcd_77 {p : Program} {l : Launch} {e : Env} {s : State} {m : MethodId} {args : Array Value} {below : List Frame} {meth : Method} {c : Code} {G : hp_G} {h0 h' : hp_H} {r : Int32} (X : hp_X p s m args meth c cX6_gcd 6 RX6 wsX6_gcd (some .int) G)  {x0 : Nat} {x1 : Int32}   : ∀ (n : Nat) {x4 : Int32} {h : hp_H} {H : Heap} {locs : List Loc} {ls : Array Slot} (Y : hp_Y G h h0 s H locs) (hl : lv_has ls 6 [(0, .ref x0), (1, .int x1), (4, .int x4)]) (hF : bX6_gcd_77 x0 x1 n x4 h = some (r, h')), W p l e rmX6_gcd s m args below meth c H locs 0 0 (MQ below (va_Qi (fun r' u => r' = r ∧ u = h') (hp_B G h0) (hp_A h0)) args s 0 0 (hp_A h0)) (F0 m 77 ls []) := by
  intro n
  induction n with
  | zero =>
    intro x4 h H locs ls Y hl hF
    exact absurd (show none = some _ from hF) (by simp)
  | succ n ih =>
    intro x4 h H locs ls Y hl hF
    rw [bX6_gcd_77] at hF
    refine lv_iload X.1 X.2.1 dX6_gcd_77 (lv_at hl 2 rfl) ?_
    refine lv_aload_n X.1 X.2.1 dX6_gcd_79 rfl (lv_at hl 0 rfl) ?_
    obtain ⟨v1, e2, hF⟩ := hp_b hF
    refine hp_geti X Y (C := RX6) (T := TX6) (N := 14) (ci := 6) (k := 8) rfl inX6_gcd_X6 (by decide) lkX6_gcd_f34 e2 dX6_gcd_80 ?_
    refine lv_icmp_ge (tgt := 106) X.1 X.2.1 dX6_gcd_83 (by decide) (fun c3 => ?_) (fun c3 => ?_)
    · have hF := hp_ifp (c3) hF
      refine lv_aload_n X.1 X.2.1 dX6_gcd_106 rfl (lv_at hl 0 rfl) ?_
      refine lv_iload_n X.1 X.2.1 dX6_gcd_107 rfl (lv_at hl 1 rfl) ?_
      refine lv_aload_n X.1 X.2.1 dX6_gcd_108 rfl (lv_at hl 0 rfl) ?_
      obtain ⟨v4, e5, hF⟩ := hp_b hF
      refine hp_getr X Y (C := RX6) (T := TX6) (N := 14) (ci := 6) (k := 6) rfl inX6_gcd_X6 (by decide) lkX6_gcd_f25 e5 dX6_gcd_109 ?_
      refine lv_aload_n X.1 X.2.1 dX6_gcd_112 rfl (lv_at hl 0 rfl) ?_
      obtain ⟨v6, e7, hF⟩ := hp_b hF
      refine hp_geti X Y (C := RX6) (T := TX6) (N := 14) (ci := 6) (k := 8) rfl inX6_gcd_X6 (by decide) lkX6_gcd_f34 e7 dX6_gcd_113 ?_
      refine lv_iconst (v := 1) X.1 X.2.1 dX6_gcd_116 (by decide) ?_
      obtain ⟨⟨v10, h9⟩, e8, hF⟩ := hp_b hF
      refine hp_ci Y (hp_runV X Y (ci := 6) (As := [.int x1, .ref v4, .int v6, .int (1 : Int32)]) (n := 4) (T := TX6) (N := 14) (mX6_put l G e8) rfl (oX6_put e8) gX6_gcd_X6_put rfl rfl rfl ndX6_put ⟨Nat.le_of_ble_eq_true rfl, Nat.le_of_ble_eq_true rfl⟩ rfl hl.1 rfl (Nat.le_of_ble_eq_true rfl) dX6_gcd_117 ⟨Nat.zero_le _, Nat.zero_le _⟩) (fun H locs Y => ?_)
      cases hF
      exact hp_ri X Y rfl rfl dX6_gcd_120
    · have hF := hp_ifn (c3) hF
      refine lv_aload_n X.1 X.2.1 dX6_gcd_86 rfl (lv_at hl 0 rfl) ?_
      obtain ⟨v12, e13, hF⟩ := hp_b hF
      refine hp_getr X Y (C := RX6) (T := TX6) (N := 14) (ci := 6) (k := 6) rfl inX6_gcd_X6 (by decide) lkX6_gcd_f25 e13 dX6_gcd_87 ?_
      refine lv_iload X.1 X.2.1 dX6_gcd_90 (lv_at hl 2 rfl) ?_
      refine lv_aload_n X.1 X.2.1 dX6_gcd_92 rfl (lv_at hl 0 rfl) ?_
      obtain ⟨v14, e15, hF⟩ := hp_b hF
      refine hp_getr X Y (C := RX6) (T := TX6) (N := 14) (ci := 6) (k := 5) rfl inX6_gcd_X6 (by decide) lkX6_gcd_f22 e15 dX6_gcd_93 ?_
      refine lv_iload X.1 X.2.1 dX6_gcd_96 (lv_at hl 2 rfl) ?_
      obtain ⟨v16, e17, hF⟩ := hp_b hF
      refine hp_iald X Y e17 dX6_gcd_98 ?_
      obtain ⟨h18, e19, hF⟩ := hp_b hF
      refine hp_iast X Y e19 dX6_gcd_99 (fun H locs Y => ?_)
      obtain ⟨v20, e21, hF⟩ := hp_b hF
      refine lv_iinc (v := v20) (lv' := [(4, .int v20), (0, .ref x0), (1, .int x1)]) X.1 X.2.1 dX6_gcd_100 hl (k := 2) rfl (Option.some.inj e21) (by decide) rfl (fun ls hl => ?_)
      refine lv_goto (tgt := 77) X.1 X.2.1 dX6_gcd_103 (by decide) ?_
      exact ih Y (lv_sub hl [1, 2, 0] rfl) hF
set_option maxRecDepth 100000 in
set_option maxHeartbeats 4000000 in
theorem wX6_gcd_52 {p : Program} {l : Launch} {e : Env} {s : State} {m : MethodId} {args : Array Value} {below : List Frame} {meth : Method} {c : Code} {G : hp_G} {h0 h' : hp_H} {r : Int32} (X : hp_X p s m args meth c cX6_gcd 6 RX6 wsX6_gcd (some .int) G)  {x0 : Nat} {x1 : Int32}   {h : hp_H} {H : Heap} {locs : List Loc} {ls : Array Slot} (Y : hp_Y G h h0 s H locs) (hl : lv_has ls 6 [(0, .ref x0), (1, .int x1)]) (hF : bX6_gcd_52 x0 x1 h = some (r, h')) : W p l e rmX6_gcd s m args below meth c H locs 0 0 (MQ below (va_Qi (fun r' u => r' = r ∧ u = h') (hp_B G h0) (hp_A h0)) args s 0 0 (hp_A h0)) (F0 m 52 ls []) := by
  unfold bX6_gcd_52 at hF
  refine lv_aload_n X.1 X.2.1 dX6_gcd_52 rfl (lv_at hl 0 rfl) ?_
  obtain ⟨v1, e2, hF⟩ := hp_b hF
  refine hp_geti X Y (C := RX6) (T := TX6) (N := 14) (ci := 6) (k := 8) rfl inX6_gcd_X6 (by decide) lkX6_gcd_f34 e2 dX6_gcd_53 ?_
  refine lv_if_ne (tgt := 74) X.1 X.2.1 dX6_gcd_56 (by decide) (fun c3 => ?_) (fun c3 => ?_)
  · have hF := hp_ifn (c3) hF
    refine lv_iconst (v := 0) X.1 X.2.1 dX6_gcd_74 (by decide) ?_
    refine lv_istore (lv' := [(4, .int (0 : Int32)), (0, .ref x0), (1, .int x1)]) X.1 X.2.1 dX6_gcd_75 hl (by decide) rfl (fun ls hl => ?_)
    exact wX6_gcd_77 X  hp_n Y (lv_sub hl [1, 2, 0] rfl) hF
  · have hF := hp_ifp (c3) hF
    refine lv_aload_n X.1 X.2.1 dX6_gcd_59 rfl (lv_at hl 0 rfl) ?_
    refine lv_iload_n X.1 X.2.1 dX6_gcd_60 rfl (lv_at hl 1 rfl) ?_
    refine lv_aload_n X.1 X.2.1 dX6_gcd_61 rfl (lv_at hl 0 rfl) ?_
    obtain ⟨v4, e5, hF⟩ := hp_b hF
    refine hp_getr X Y (C := RX6) (T := TX6) (N := 14) (ci := 6) (k := 6) rfl inX6_gcd_X6 (by decide) lkX6_gcd_f25 e5 dX6_gcd_62 ?_
    refine lv_aload_n X.1 X.2.1 dX6_gcd_65 rfl (lv_at hl 0 rfl) ?_
    obtain ⟨v6, e7, hF⟩ := hp_b hF
    refine hp_geti X Y (C := RX6) (T := TX6) (N := 14) (ci := 6) (k := 9) rfl inX6_gcd_X6 (by decide) lkX6_gcd_f55 e7 dX6_gcd_66 ?_
    refine lv_iconst (v := 1) X.1 X.2.1 dX6_gcd_69 (by decide) ?_
    obtain ⟨⟨v10, h9⟩, e8, hF⟩ := hp_b hF
    refine hp_ci Y (hp_runV X Y (ci := 6) (As := [.int x1, .ref v4, .int v6, .int (1 : Int32)]) (n := 4) (T := TX6) (N := 14) (mX6_put l G e8) rfl (oX6_put e8) gX6_gcd_X6_put rfl rfl rfl ndX6_put ⟨Nat.le_of_ble_eq_true rfl, Nat.le_of_ble_eq_true rfl⟩ rfl hl.1 rfl (Nat.le_of_ble_eq_true rfl) dX6_gcd_70 ⟨Nat.zero_le _, Nat.zero_le _⟩) (fun H locs Y => ?_)
    cases hF
    exact hp_ri X Y rfl rfl dX6_gcd_73
theorem oX6_gcd {x0 : Nat} {x1 : Int32} {x2 : Int32} {x3 : Int32} {h h' : hp_H} {r : Int32} (hF : fX6_gcd x0 x1 x2 x3 h = some (r, h')) : hp_o h x0 6 = true := by
  unfold fX6_gcd at hF
  exact (hp_ift hF).1
set_option maxRecDepth 100000 in
set_option maxHeartbeats 4000000 in
theorem mX6_gcd (l : Launch) (G : hp_G) {x0 : Nat} {x1 : Int32} {x2 : Int32} {x3 : Int32} {h h' : hp_H} {r : Int32} (hF : fX6_gcd x0 x1 x2 x3 h = some (r, h')) : Met l yX6_gcd wsX6_gcd rmX6_gcd (va_Pc [.ref x0, .int x1, .int x2, .int x3] (hp_S G h)) (va_Qi (fun r' u => r' = r ∧ u = h') (hp_B G h) (hp_A h)) 0 0 (hp_A h) := by
  refine hp_met (cc := cX6_gcd) (nL := 6) (ret := (some .int)) (by decide) rfl ?_
  intro p e s m below meth c X Y
  have hl := lv_entry ([.ref x0, .int x1, .int x2, .int x3]) (n := 6) (Nat.le_of_ble_eq_true rfl)
  rw [lg_entry_eq]
  generalize (lg_sl ([.ref x0, .int x1, .int x2, .int x3]) ++ List.replicate (6 - (lg_sl ([.ref x0, .int x1, .int x2, .int x3])).length) Slot.unset).toArray = ls at hl ⊢
  have hl : lv_has ls 6 [(0, .ref x0), (1, .int x1), (2, .int x2), (3, .int x3)] := hl
  unfold fX6_gcd at hF
  obtain ⟨ho, hF⟩ := hp_ift hF
  refine lv_aload_n X.1 X.2.1 dX6_gcd_0 rfl (lv_at hl 0 rfl) ?_
  refine lv_iconst (v := 0) X.1 X.2.1 dX6_gcd_1 (by decide) ?_
  obtain ⟨h1, e2, hF⟩ := hp_b hF
  refine hp_put X Y (C := RX6) (T := TX6) (N := 14) (ci := 6) (k := 11) (ty0 := tyX6) rfl inX6_gcd_X6 tyX6_ok nmX6 (by decide) lkX6_gcd_f45 rfl rfl rfl e2 dX6_gcd_2 (fun H locs Y => ?_)
  refine lv_iload_n X.1 X.2.1 dX6_gcd_5 rfl (lv_at hl 1 rfl) ?_
  obtain ⟨v4, e3, hF⟩ := hp_b hF
  refine hp_ci Y (hp_runS X Y (As := [.int x1]) (n := 1) (mX6_isRegister l G e3) gX6_gcd_X6_isRegister rfl rfl rfl ndX6_isRegister ⟨Nat.le_of_ble_eq_true rfl, Nat.le_of_ble_eq_true rfl⟩ rfl hl.1 rfl (Nat.le_of_ble_eq_true rfl) dX6_gcd_6 ⟨Nat.zero_le _, Nat.zero_le _⟩) (fun H locs Y => ?_)
  refine lv_if_eq (tgt := 26) X.1 X.2.1 dX6_gcd_9 (by decide) (fun c5 => ?_) (fun c5 => ?_)
  · have hF := hp_ifp (c5) hF
    refine lv_iconst (v := -1) X.1 X.2.1 dX6_gcd_26 (by decide) ?_
    cases hF
    exact hp_ri X Y rfl rfl dX6_gcd_27
  · have hF := hp_ifn (c5) hF
    refine lv_iload_n X.1 X.2.1 dX6_gcd_12 rfl (lv_at hl 2 rfl) ?_
    obtain ⟨v7, e6, hF⟩ := hp_b hF
    refine hp_ci Y (hp_runS X Y (As := [.int x2]) (n := 1) (mX6_isRegister l G e6) gX6_gcd_X6_isRegister rfl rfl rfl ndX6_isRegister ⟨Nat.le_of_ble_eq_true rfl, Nat.le_of_ble_eq_true rfl⟩ rfl hl.1 rfl (Nat.le_of_ble_eq_true rfl) dX6_gcd_13 ⟨Nat.zero_le _, Nat.zero_le _⟩) (fun H locs Y => ?_)
    refine lv_if_eq (tgt := 26) X.1 X.2.1 dX6_gcd_16 (by decide) (fun c8 => ?_) (fun c8 => ?_)
    · have hF := hp_ifp (c8) hF
      refine lv_iconst (v := -1) X.1 X.2.1 dX6_gcd_26 (by decide) ?_
      cases hF
      exact hp_ri X Y rfl rfl dX6_gcd_27
    · have hF := hp_ifn (c8) hF
      refine lv_iload_n X.1 X.2.1 dX6_gcd_19 rfl (lv_at hl 3 rfl) ?_
      obtain ⟨v10, e9, hF⟩ := hp_b hF
      refine hp_ci Y (hp_runS X Y (As := [.int x3]) (n := 1) (mX6_isRegister l G e9) gX6_gcd_X6_isRegister rfl rfl rfl ndX6_isRegister ⟨Nat.le_of_ble_eq_true rfl, Nat.le_of_ble_eq_true rfl⟩ rfl hl.1 rfl (Nat.le_of_ble_eq_true rfl) dX6_gcd_20 ⟨Nat.zero_le _, Nat.zero_le _⟩) (fun H locs Y => ?_)
      refine lv_if_ne (tgt := 28) X.1 X.2.1 dX6_gcd_23 (by decide) (fun c11 => ?_) (fun c11 => ?_)
      · have hF := hp_ifn (c11) hF
        refine lv_aload_n X.1 X.2.1 dX6_gcd_28 rfl (lv_at hl 0 rfl) ?_
        refine lv_iload_n X.1 X.2.1 dX6_gcd_29 rfl (lv_at hl 2 rfl) ?_
        obtain ⟨h13, e12, hF⟩ := hp_b hF
        refine hp_cv Y (hp_runV X Y (ci := 6) (As := [.int x2]) (n := 1) (T := TX6) (N := 14) (mX6_toX l G e12) rfl (oX6_toX e12) gX6_gcd_X6_toX rfl rfl rfl ndX6_toX ⟨Nat.le_of_ble_eq_true rfl, Nat.le_of_ble_eq_true rfl⟩ rfl hl.1 rfl (Nat.le_of_ble_eq_true rfl) dX6_gcd_30 ⟨Nat.zero_le _, Nat.zero_le _⟩) (fun H locs Y => ?_)
        refine lv_aload_n X.1 X.2.1 dX6_gcd_33 rfl (lv_at hl 0 rfl) ?_
        refine lv_iload_n X.1 X.2.1 dX6_gcd_34 rfl (lv_at hl 3 rfl) ?_
        obtain ⟨h15, e14, hF⟩ := hp_b hF
        refine hp_cv Y (hp_runV X Y (ci := 6) (As := [.int x3]) (n := 1) (T := TX6) (N := 14) (mX6_toY l G e14) rfl (oX6_toY e14) gX6_gcd_X6_toY rfl rfl rfl ndX6_toY ⟨Nat.le_of_ble_eq_true rfl, Nat.le_of_ble_eq_true rfl⟩ rfl hl.1 rfl (Nat.le_of_ble_eq_true rfl) dX6_gcd_35 ⟨Nat.zero_le _, Nat.zero_le _⟩) (fun H locs Y => ?_)
        refine lv_aload_n X.1 X.2.1 dX6_gcd_38 rfl (lv_at hl 0 rfl) ?_
        obtain ⟨v16, e17, hF⟩ := hp_b hF
        refine hp_geti X Y (C := RX6) (T := TX6) (N := 14) (ci := 6) (k := 8) rfl inX6_gcd_X6 (by decide) lkX6_gcd_f34 e17 dX6_gcd_39 ?_
        refine lv_if_eq (tgt := 52) X.1 X.2.1 dX6_gcd_42 (by decide) (fun c18 => ?_) (fun c18 => ?_)
        · have hF := hp_ifp (c18) hF
          exact wX6_gcd_52 X  Y (lv_sub hl [0, 1] rfl) hF
        · have hF := hp_ifn (c18) hF
          refine lv_aload_n X.1 X.2.1 dX6_gcd_45 rfl (lv_at hl 0 rfl) ?_
          obtain ⟨v19, e20, hF⟩ := hp_b hF
          refine hp_geti X Y (C := RX6) (T := TX6) (N := 14) (ci := 6) (k := 9) rfl inX6_gcd_X6 (by decide) lkX6_gcd_f55 e20 dX6_gcd_46 ?_
          refine lv_if_ne (tgt := 121) X.1 X.2.1 dX6_gcd_49 (by decide) (fun c21 => ?_) (fun c21 => ?_)
          · have hF := hp_ifn (c21) hF
            refine lv_iconst (v := 0) X.1 X.2.1 dX6_gcd_121 (by decide) ?_
            refine lv_istore (lv' := [(4, .int (0 : Int32)), (0, .ref x0), (1, .int x1), (2, .int x2), (3, .int x3)]) X.1 X.2.1 dX6_gcd_122 hl (by decide) rfl (fun ls hl => ?_)
            exact wX6_gcd_124 X  hp_n Y (lv_sub hl [1, 2, 0] rfl) hF
          · have hF := hp_ifp (c21) hF
            exact wX6_gcd_52 X  Y (lv_sub hl [0, 1] rfl) hF
      · have hF := hp_ifp (c11) hF
        refine lv_iconst (v := -1) X.1 X.2.1 dX6_gcd_26 (by decide) ?_
        cases hF
        exact hp_ri X Y rfl rfl dX6_gcd_27

/-! WholeNumbersModel.isOne -/
def rmX6_isOne : Room := { frames := 0, cells := 0, slots := 0, locals := 0 }
def fX6_isOne (x0 : Nat) (h : hp_H) : Option Int32 :=
  if hp_o h x0 6 = true then
  (hp_gi h x0 6 9).bind fun v1 =>
  if (1 : Int32) < v1 then (
    some (1 : Int32))
  else (
    (hp_gi h x0 6 9).bind fun v4 =>
    if v4 = (1 : Int32) then (
      (hp_gr h x0 6 6).bind fun v7 =>
      (hp_ai h 0 v7 (0 : Int32)).bind fun v9 =>
      if v9 ≤ (1 : Int32) then (
        some (0 : Int32))
      else (
        some (1 : Int32)))
    else (
      some (0 : Int32)))
  else none
theorem inX6_isOne_X6 : ∀ w ∈ wsX60, w ∈ wsX6_isOne := by decide +kernel
theorem lkX6_isOne_f55 : Cond.fieldLink RX6 55 (TX6 9).1 (TX6 9).2.1 (TX6 9).2.2.1 ∈ wsX6_isOne := by decide +kernel
theorem lkX6_isOne_f25 : Cond.fieldLink RX6 25 (TX6 6).1 (TX6 6).2.1 (TX6 6).2.2.1 ∈ wsX6_isOne := by decide +kernel
theorem ndX6_isOne : yX6_isOne.cls ≠ "java/lang/invoke/MethodHandle" ∧ yX6_isOne.cls ≠ "java/lang/invoke/VarHandle" ∧ (parseMethodDescriptor yX6_isOne.desc).map (fun d => d.parameters.length) = some 0 := by decide +kernel
theorem oX6_isOne {x0 : Nat} {h : hp_H} {r : Int32} (hF : fX6_isOne x0 h = some r) : hp_o h x0 6 = true := by
  unfold fX6_isOne at hF
  exact (hp_ift hF).1
set_option maxRecDepth 100000 in
set_option maxHeartbeats 4000000 in
theorem mX6_isOne (l : Launch) (G : hp_G) {x0 : Nat} {h : hp_H} {r : Int32} (hF : fX6_isOne x0 h = some r) : Met l yX6_isOne wsX6_isOne rmX6_isOne (va_Pc [.ref x0] (hp_S G h)) (va_Qi (fun r' u => r' = r ∧ u = h) (hp_B G h) (hp_A h)) 0 0 (hp_A h) := by
  refine hp_met (cc := cX6_isOne) (nL := 1) (ret := (some .boolean)) (by decide) rfl ?_
  intro p e s m below meth c X Y
  have hl := lv_entry ([.ref x0]) (n := 1) (Nat.le_of_ble_eq_true rfl)
  rw [lg_entry_eq]
  generalize (lg_sl ([.ref x0]) ++ List.replicate (1 - (lg_sl ([.ref x0])).length) Slot.unset).toArray = ls at hl ⊢
  have hl : lv_has ls 1 [(0, .ref x0)] := hl
  unfold fX6_isOne at hF
  obtain ⟨ho, hF⟩ := hp_ift hF
  refine lv_aload_n X.1 X.2.1 dX6_isOne_0 rfl (lv_at hl 0 rfl) ?_
  obtain ⟨v1, e2, hF⟩ := hp_b hF
  refine hp_geti X Y (C := RX6) (T := TX6) (N := 14) (ci := 6) (k := 9) rfl inX6_isOne_X6 (by decide) lkX6_isOne_f55 e2 dX6_isOne_1 ?_
  refine lv_iconst (v := 1) X.1 X.2.1 dX6_isOne_4 (by decide) ?_
  refine lv_icmp_gt (tgt := 26) X.1 X.2.1 dX6_isOne_5 (by decide) (fun c3 => ?_) (fun c3 => ?_)
  · have hF := hp_ifp (c3) hF
    refine lv_iconst (v := 1) X.1 X.2.1 dX6_isOne_26 (by decide) ?_
    refine lv_goto (tgt := 31) X.1 X.2.1 dX6_isOne_27 (by decide) ?_
    cases hF
    exact hp_ri X Y rfl rfl dX6_isOne_31
  · have hF := hp_ifn (c3) hF
    refine lv_aload_n X.1 X.2.1 dX6_isOne_8 rfl (lv_at hl 0 rfl) ?_
    obtain ⟨v4, e5, hF⟩ := hp_b hF
    refine hp_geti X Y (C := RX6) (T := TX6) (N := 14) (ci := 6) (k := 9) rfl inX6_isOne_X6 (by decide) lkX6_isOne_f55 e5 dX6_isOne_9 ?_
    refine lv_iconst (v := 1) X.1 X.2.1 dX6_isOne_12 (by decide) ?_
    refine lv_icmp_ne (tgt := 30) X.1 X.2.1 dX6_isOne_13 (by decide) (fun c6 => ?_) (fun c6 => ?_)
    · have hF := hp_ifn (c6) hF
      refine lv_iconst (v := 0) X.1 X.2.1 dX6_isOne_30 (by decide) ?_
      cases hF
      exact hp_ri X Y rfl rfl dX6_isOne_31
    · have hF := hp_ifp (c6) hF
      refine lv_aload_n X.1 X.2.1 dX6_isOne_16 rfl (lv_at hl 0 rfl) ?_
      obtain ⟨v7, e8, hF⟩ := hp_b hF
      refine hp_getr X Y (C := RX6) (T := TX6) (N := 14) (ci := 6) (k := 6) rfl inX6_isOne_X6 (by decide) lkX6_isOne_f25 e8 dX6_isOne_17 ?_
      refine lv_iconst (v := 0) X.1 X.2.1 dX6_isOne_20 (by decide) ?_
      obtain ⟨v9, e10, hF⟩ := hp_b hF
      refine hp_iald X Y e10 dX6_isOne_21 ?_
      refine lv_iconst (v := 1) X.1 X.2.1 dX6_isOne_22 (by decide) ?_
      refine lv_icmp_le (tgt := 30) X.1 X.2.1 dX6_isOne_23 (by decide) (fun c11 => ?_) (fun c11 => ?_)
      · have hF := hp_ifp (c11) hF
        refine lv_iconst (v := 0) X.1 X.2.1 dX6_isOne_30 (by decide) ?_
        cases hF
        exact hp_ri X Y rfl rfl dX6_isOne_31
      · have hF := hp_ifn (c11) hF
        refine lv_iconst (v := 1) X.1 X.2.1 dX6_isOne_26 (by decide) ?_
        refine lv_goto (tgt := 31) X.1 X.2.1 dX6_isOne_27 (by decide) ?_
        cases hF
        exact hp_ri X Y rfl rfl dX6_isOne_31

/-! WholeNumbersModel.root -/
def rmX6_root : Room := { frames := 4, cells := 0, slots := 0, locals := 93 }
def bX6_root_101  (x0 : Nat) (x1 : Int32) : Nat → hp_H → Option (Int32 × hp_H)
  | 0, _ => none
  | n + 1, h =>
  (fX6_isOne x0 h).bind fun v2 =>
  if v2 = 0 then (
    (hp_gr h x0 6 7).bind fun v4 =>
    (hp_gi h x0 6 10).bind fun v6 =>
    (fX6_put x0 x1 v4 v6 (1 : Int32) h).bind fun (v10, h9) =>
    some (v10, h9))
  else (
    (hp_gr h x0 6 6).bind fun v12 =>
    (hp_gi h x0 6 9).bind fun v14 =>
    (fX6_half v12 v14 h).bind fun (v18, h17) =>
    (hp_pv h17 x0 6 9 (.int v18)).bind fun h20 =>
    (hp_gr h20 x0 6 6).bind fun v22 =>
    (hp_gi h20 x0 6 9).bind fun v24 =>
    (fX6_half v22 v24 h20).bind fun (v28, h27) =>
    (hp_pv h27 x0 6 9 (.int v28)).bind fun h30 =>
    (hp_gr h30 x0 6 7).bind fun v32 =>
    (hp_gi h30 x0 6 10).bind fun v34 =>
    (hp_gr h30 x0 6 6).bind fun v36 =>
    (hp_gi h30 x0 6 9).bind fun v38 =>
    (fX6_added v32 v34 v36 v38 h30).bind fun (v42, h41) =>
    (hp_pv h41 x0 6 10 (.int v42)).bind fun h44 =>
    (hp_gr h44 x0 6 7).bind fun v46 =>
    (hp_gi h44 x0 6 10).bind fun v48 =>
    (hp_gr h44 x0 6 5).bind fun v50 =>
    (hp_gi h44 x0 6 8).bind fun v52 =>
    (fX6_compareRows v46 v48 v50 v52 h44).bind fun v55 =>
    if 0 < v55 then (
      (hp_gr h44 x0 6 7).bind fun v57 =>
      (hp_gi h44 x0 6 10).bind fun v59 =>
      (hp_gr h44 x0 6 6).bind fun v61 =>
      (hp_gi h44 x0 6 9).bind fun v63 =>
      (fX6_taken v57 v59 v61 v63 h44).bind fun (v67, h66) =>
      (hp_pv h66 x0 6 10 (.int v67)).bind fun h69 =>
      (hp_gr h69 x0 6 7).bind fun v71 =>
      (hp_gi h69 x0 6 10).bind fun v73 =>
      (fX6_half v71 v73 h69).bind fun (v77, h76) =>
      (hp_pv h76 x0 6 10 (.int v77)).bind fun h79 =>
      bX6_root_101 x0 x1 n h79)
    else (
      (hp_gr h44 x0 6 5).bind fun v81 =>
      (hp_gi h44 x0 6 8).bind fun v83 =>
      (hp_gr h44 x0 6 7).bind fun v85 =>
      (hp_gi h44 x0 6 10).bind fun v87 =>
      (fX6_taken v81 v83 v85 v87 h44).bind fun (v91, h90) =>
      (hp_pv h90 x0 6 8 (.int v91)).bind fun h93 =>
      (hp_gr h93 x0 6 7).bind fun v95 =>
      (hp_gi h93 x0 6 10).bind fun v97 =>
      (hp_gr h93 x0 6 6).bind fun v99 =>
      (hp_gi h93 x0 6 9).bind fun v101 =>
      (fX6_taken v95 v97 v99 v101 h93).bind fun (v105, h104) =>
      (hp_pv h104 x0 6 10 (.int v105)).bind fun h107 =>
      (hp_gr h107 x0 6 7).bind fun v109 =>
      (hp_gi h107 x0 6 10).bind fun v111 =>
      (fX6_half v109 v111 h107).bind fun (v115, h114) =>
      (hp_pv h114 x0 6 10 (.int v115)).bind fun h117 =>
      (hp_gr h117 x0 6 7).bind fun v119 =>
      (hp_gi h117 x0 6 10).bind fun v121 =>
      (hp_gr h117 x0 6 6).bind fun v123 =>
      (hp_gi h117 x0 6 9).bind fun v125 =>
      (fX6_added v119 v121 v123 v125 h117).bind fun (v129, h128) =>
      (hp_pv h128 x0 6 10 (.int v129)).bind fun h131 =>
      bX6_root_101 x0 x1 n h131))
def bX6_root_54  (x0 : Nat) (x1 : Int32) : Nat → hp_H → Option (Int32 × hp_H)
  | 0, _ => none
  | n + 1, h =>
  (hp_gr h x0 6 6).bind fun v1 =>
  (hp_gi h x0 6 9).bind fun v3 =>
  (hp_gr h x0 6 5).bind fun v5 =>
  (hp_gi h x0 6 8).bind fun v7 =>
  (fX6_compareRows v1 v3 v5 v7 h).bind fun v10 =>
  if 0 < v10 then (
    (hp_pv h x0 6 10 (.int (0 : Int32))).bind fun h12 =>
    bX6_root_101 x0 x1 hp_n h12)
  else (
    (hp_gr h x0 6 6).bind fun v14 =>
    (hp_gi h x0 6 9).bind fun v16 =>
    (fX6_scaled v14 v16 (4 : Int32) (0 : Int32) h).bind fun (v20, h19) =>
    (hp_pv h19 x0 6 9 (.int v20)).bind fun h22 =>
    bX6_root_54 x0 x1 n h22)
def fX6_root (x0 : Nat) (x1 : Int32) (x2 : Int32) (h : hp_H) : Option (Int32 × hp_H) :=
  if hp_o h x0 6 = true then
  (hp_pv h x0 6 11 (.int (0 : Int32))).bind fun h1 =>
  (fX6_isRegister x1).bind fun v4 =>
  if v4 = 0 then (
    some ((-1 : Int32), h1))
  else (
    (fX6_isRegister x2).bind fun v7 =>
    if v7 = 0 then (
      some ((-1 : Int32), h1))
    else (
      (hp_gr h1 x0 6 2).bind fun v9 =>
      (hp_ai h1 0 v9 x2).bind fun v11 =>
      if 0 ≤ v11 then (
        (fX6_toX x0 x2 h1).bind fun h15 =>
        (hp_gr h15 x0 6 6).bind fun v16 =>
        (hp_si h15 0 v16 (0 : Int32) (1 : Int32)).bind fun h18 =>
        (hp_pv h18 x0 6 9 (.int (1 : Int32))).bind fun h20 =>
        bX6_root_54 x0 x1 hp_n h20)
      else (
        (hp_pv h1 x0 6 11 (.int (1 : Int32))).bind fun h22 =>
        some ((0 : Int32), h22))))
  else none
theorem inX6_root_X6 : ∀ w ∈ wsX60, w ∈ wsX6_root := by decide +kernel
theorem lkX6_root_f28 : Cond.fieldLink RX6 28 (TX6 7).1 (TX6 7).2.1 (TX6 7).2.2.1 ∈ wsX6_root := by decide +kernel
theorem lkX6_root_f89 : Cond.fieldLink RX6 89 (TX6 10).1 (TX6 10).2.1 (TX6 10).2.2.1 ∈ wsX6_root := by decide +kernel
theorem lkX6_root_f25 : Cond.fieldLink RX6 25 (TX6 6).1 (TX6 6).2.1 (TX6 6).2.2.1 ∈ wsX6_root := by decide +kernel
theorem lkX6_root_f55 : Cond.fieldLink RX6 55 (TX6 9).1 (TX6 9).2.1 (TX6 9).2.2.1 ∈ wsX6_root := by decide +kernel
theorem lkX6_root_f22 : Cond.fieldLink RX6 22 (TX6 5).1 (TX6 5).2.1 (TX6 5).2.2.1 ∈ wsX6_root := by decide +kernel
theorem lkX6_root_f34 : Cond.fieldLink RX6 34 (TX6 8).1 (TX6 8).2.1 (TX6 8).2.2.1 ∈ wsX6_root := by decide +kernel
theorem lkX6_root_f45 : Cond.fieldLink RX6 45 (TX6 11).1 (TX6 11).2.1 (TX6 11).2.2.1 ∈ wsX6_root := by decide +kernel
theorem lkX6_root_f16 : Cond.fieldLink RX6 16 (TX6 2).1 (TX6 2).2.1 (TX6 2).2.2.1 ∈ wsX6_root := by decide +kernel
theorem ndX6_root : yX6_root.cls ≠ "java/lang/invoke/MethodHandle" ∧ yX6_root.cls ≠ "java/lang/invoke/VarHandle" ∧ (parseMethodDescriptor yX6_root.desc).map (fun d => d.parameters.length) = some 2 := by decide +kernel
set_option maxRecDepth 100000 in
set_option maxHeartbeats 4000000 in
theorem wX6_root_101 {p : Program} {l : Launch} {e : Env} {s : State} {m : MethodId} {args : Array Value} {below : List Frame} {meth : Method} {c : Code} {G : hp_G} {h0 h' : hp_H} {r : Int32} (X : hp_X p s m args meth c cX6_root 3 RX6 wsX6_root (some .int) G)  {x0 : Nat} {x1 : Int32}   : ∀ (n : Nat) {h : hp_H} {H : Heap} {locs : List Loc} {ls : Array Slot} (Y : hp_Y G h h0 s H locs) (hl : lv_has ls 3 [(0, .ref x0), (1, .int x1)]) (hF : bX6_root_101 x0 x1 n h = some (r, h')), W p l e rmX6_root s m args below meth c H locs 0 0 (MQ below (va_Qi (fun r' u => r' = r ∧ u = h') (hp_B G h0) (hp_A h0)) args s 0 0 (hp_A h0)) (F0 m 101 ls []) := by
  intro n
  induction n with
  | zero =>
    intro h H locs ls Y hl hF
    exact absurd (show none = some _ from hF) (by simp)
  | succ n ih =>
    intro h H locs ls Y hl hF
    rw [bX6_root_101] at hF
    refine lv_aload_n X.1 X.2.1 dX6_root_101 rfl (lv_at hl 0 rfl) ?_
    obtain ⟨v2, e1, hF⟩ := hp_b hF
    refine hp_ci Y (hp_runV X Y (ci := 6) (As := []) (n := 0) (T := TX6) (N := 14) (mX6_isOne l G e1) rfl (oX6_isOne e1) gX6_root_X6_isOne rfl rfl rfl ndX6_isOne ⟨Nat.le_of_ble_eq_true rfl, Nat.le_of_ble_eq_true rfl⟩ rfl hl.1 rfl (Nat.le_of_ble_eq_true rfl) dX6_root_102 ⟨Nat.zero_le _, Nat.zero_le _⟩) (fun H locs Y => ?_)
    refine lv_if_eq (tgt := 311) X.1 X.2.1 dX6_root_105 (by decide) (fun c3 => ?_) (fun c3 => ?_)
    · have hF := hp_ifp (c3) hF
      refine lv_aload_n X.1 X.2.1 dX6_root_311 rfl (lv_at hl 0 rfl) ?_
      refine lv_iload_n X.1 X.2.1 dX6_root_312 rfl (lv_at hl 1 rfl) ?_
      refine lv_aload_n X.1 X.2.1 dX6_root_313 rfl (lv_at hl 0 rfl) ?_
      obtain ⟨v4, e5, hF⟩ := hp_b hF
      refine hp_getr X Y (C := RX6) (T := TX6) (N := 14) (ci := 6) (k := 7) rfl inX6_root_X6 (by decide) lkX6_root_f28 e5 dX6_root_314 ?_
      refine lv_aload_n X.1 X.2.1 dX6_root_317 rfl (lv_at hl 0 rfl) ?_
      obtain ⟨v6, e7, hF⟩ := hp_b hF
      refine hp_geti X Y (C := RX6) (T := TX6) (N := 14) (ci := 6) (k := 10) rfl inX6_root_X6 (by decide) lkX6_root_f89 e7 dX6_root_318 ?_
      refine lv_iconst (v := 1) X.1 X.2.1 dX6_root_321 (by decide) ?_
      obtain ⟨⟨v10, h9⟩, e8, hF⟩ := hp_b hF
      refine hp_ci Y (hp_runV X Y (ci := 6) (As := [.int x1, .ref v4, .int v6, .int (1 : Int32)]) (n := 4) (T := TX6) (N := 14) (mX6_put l G e8) rfl (oX6_put e8) gX6_root_X6_put rfl rfl rfl ndX6_put ⟨Nat.le_of_ble_eq_true rfl, Nat.le_of_ble_eq_true rfl⟩ rfl hl.1 rfl (Nat.le_of_ble_eq_true rfl) dX6_root_322 ⟨Nat.zero_le _, Nat.zero_le _⟩) (fun H locs Y => ?_)
      cases hF
      exact hp_ri X Y rfl rfl dX6_root_325
    · have hF := hp_ifn (c3) hF
      refine lv_aload_n X.1 X.2.1 dX6_root_108 rfl (lv_at hl 0 rfl) ?_
      refine lv_aload_n X.1 X.2.1 dX6_root_109 rfl (lv_at hl 0 rfl) ?_
      obtain ⟨v12, e13, hF⟩ := hp_b hF
      refine hp_getr X Y (C := RX6) (T := TX6) (N := 14) (ci := 6) (k := 6) rfl inX6_root_X6 (by decide) lkX6_root_f25 e13 dX6_root_110 ?_
      refine lv_aload_n X.1 X.2.1 dX6_root_113 rfl (lv_at hl 0 rfl) ?_
      obtain ⟨v14, e15, hF⟩ := hp_b hF
      refine hp_geti X Y (C := RX6) (T := TX6) (N := 14) (ci := 6) (k := 9) rfl inX6_root_X6 (by decide) lkX6_root_f55 e15 dX6_root_114 ?_
      obtain ⟨⟨v18, h17⟩, e16, hF⟩ := hp_b hF
      refine hp_ci Y (hp_runS X Y (As := [.ref v12, .int v14]) (n := 2) (mX6_half l G e16) gX6_root_X6_half rfl rfl rfl ndX6_half ⟨Nat.le_of_ble_eq_true rfl, Nat.le_of_ble_eq_true rfl⟩ rfl hl.1 rfl (Nat.le_of_ble_eq_true rfl) dX6_root_117 ⟨Nat.zero_le _, Nat.zero_le _⟩) (fun H locs Y => ?_)
      obtain ⟨h20, e21, hF⟩ := hp_b hF
      refine hp_put X Y (C := RX6) (T := TX6) (N := 14) (ci := 6) (k := 9) (ty0 := tyX6) rfl inX6_root_X6 tyX6_ok nmX6 (by decide) lkX6_root_f55 rfl rfl rfl e21 dX6_root_120 (fun H locs Y => ?_)
      refine lv_aload_n X.1 X.2.1 dX6_root_123 rfl (lv_at hl 0 rfl) ?_
      refine lv_aload_n X.1 X.2.1 dX6_root_124 rfl (lv_at hl 0 rfl) ?_
      obtain ⟨v22, e23, hF⟩ := hp_b hF
      refine hp_getr X Y (C := RX6) (T := TX6) (N := 14) (ci := 6) (k := 6) rfl inX6_root_X6 (by decide) lkX6_root_f25 e23 dX6_root_125 ?_
      refine lv_aload_n X.1 X.2.1 dX6_root_128 rfl (lv_at hl 0 rfl) ?_
      obtain ⟨v24, e25, hF⟩ := hp_b hF
      refine hp_geti X Y (C := RX6) (T := TX6) (N := 14) (ci := 6) (k := 9) rfl inX6_root_X6 (by decide) lkX6_root_f55 e25 dX6_root_129 ?_
      obtain ⟨⟨v28, h27⟩, e26, hF⟩ := hp_b hF
      refine hp_ci Y (hp_runS X Y (As := [.ref v22, .int v24]) (n := 2) (mX6_half l G e26) gX6_root_X6_half rfl rfl rfl ndX6_half ⟨Nat.le_of_ble_eq_true rfl, Nat.le_of_ble_eq_true rfl⟩ rfl hl.1 rfl (Nat.le_of_ble_eq_true rfl) dX6_root_132 ⟨Nat.zero_le _, Nat.zero_le _⟩) (fun H locs Y => ?_)
      obtain ⟨h30, e31, hF⟩ := hp_b hF
      refine hp_put X Y (C := RX6) (T := TX6) (N := 14) (ci := 6) (k := 9) (ty0 := tyX6) rfl inX6_root_X6 tyX6_ok nmX6 (by decide) lkX6_root_f55 rfl rfl rfl e31 dX6_root_135 (fun H locs Y => ?_)
      refine lv_aload_n X.1 X.2.1 dX6_root_138 rfl (lv_at hl 0 rfl) ?_
      refine lv_aload_n X.1 X.2.1 dX6_root_139 rfl (lv_at hl 0 rfl) ?_
      obtain ⟨v32, e33, hF⟩ := hp_b hF
      refine hp_getr X Y (C := RX6) (T := TX6) (N := 14) (ci := 6) (k := 7) rfl inX6_root_X6 (by decide) lkX6_root_f28 e33 dX6_root_140 ?_
      refine lv_aload_n X.1 X.2.1 dX6_root_143 rfl (lv_at hl 0 rfl) ?_
      obtain ⟨v34, e35, hF⟩ := hp_b hF
      refine hp_geti X Y (C := RX6) (T := TX6) (N := 14) (ci := 6) (k := 10) rfl inX6_root_X6 (by decide) lkX6_root_f89 e35 dX6_root_144 ?_
      refine lv_aload_n X.1 X.2.1 dX6_root_147 rfl (lv_at hl 0 rfl) ?_
      obtain ⟨v36, e37, hF⟩ := hp_b hF
      refine hp_getr X Y (C := RX6) (T := TX6) (N := 14) (ci := 6) (k := 6) rfl inX6_root_X6 (by decide) lkX6_root_f25 e37 dX6_root_148 ?_
      refine lv_aload_n X.1 X.2.1 dX6_root_151 rfl (lv_at hl 0 rfl) ?_
      obtain ⟨v38, e39, hF⟩ := hp_b hF
      refine hp_geti X Y (C := RX6) (T := TX6) (N := 14) (ci := 6) (k := 9) rfl inX6_root_X6 (by decide) lkX6_root_f55 e39 dX6_root_152 ?_
      obtain ⟨⟨v42, h41⟩, e40, hF⟩ := hp_b hF
      refine hp_ci Y (hp_runS X Y (As := [.ref v32, .int v34, .ref v36, .int v38]) (n := 4) (mX6_added l G e40) gX6_root_X6_added rfl rfl rfl ndX6_added ⟨Nat.le_of_ble_eq_true rfl, Nat.le_of_ble_eq_true rfl⟩ rfl hl.1 rfl (Nat.le_of_ble_eq_true rfl) dX6_root_155 ⟨Nat.zero_le _, Nat.zero_le _⟩) (fun H locs Y => ?_)
      obtain ⟨h44, e45, hF⟩ := hp_b hF
      refine hp_put X Y (C := RX6) (T := TX6) (N := 14) (ci := 6) (k := 10) (ty0 := tyX6) rfl inX6_root_X6 tyX6_ok nmX6 (by decide) lkX6_root_f89 rfl rfl rfl e45 dX6_root_158 (fun H locs Y => ?_)
      refine lv_aload_n X.1 X.2.1 dX6_root_161 rfl (lv_at hl 0 rfl) ?_
      obtain ⟨v46, e47, hF⟩ := hp_b hF
      refine hp_getr X Y (C := RX6) (T := TX6) (N := 14) (ci := 6) (k := 7) rfl inX6_root_X6 (by decide) lkX6_root_f28 e47 dX6_root_162 ?_
      refine lv_aload_n X.1 X.2.1 dX6_root_165 rfl (lv_at hl 0 rfl) ?_
      obtain ⟨v48, e49, hF⟩ := hp_b hF
      refine hp_geti X Y (C := RX6) (T := TX6) (N := 14) (ci := 6) (k := 10) rfl inX6_root_X6 (by decide) lkX6_root_f89 e49 dX6_root_166 ?_
      refine lv_aload_n X.1 X.2.1 dX6_root_169 rfl (lv_at hl 0 rfl) ?_
      obtain ⟨v50, e51, hF⟩ := hp_b hF
      refine hp_getr X Y (C := RX6) (T := TX6) (N := 14) (ci := 6) (k := 5) rfl inX6_root_X6 (by decide) lkX6_root_f22 e51 dX6_root_170 ?_
      refine lv_aload_n X.1 X.2.1 dX6_root_173 rfl (lv_at hl 0 rfl) ?_
      obtain ⟨v52, e53, hF⟩ := hp_b hF
      refine hp_geti X Y (C := RX6) (T := TX6) (N := 14) (ci := 6) (k := 8) rfl inX6_root_X6 (by decide) lkX6_root_f34 e53 dX6_root_174 ?_
      obtain ⟨v55, e54, hF⟩ := hp_b hF
      refine hp_ci Y (hp_runS X Y (As := [.ref v46, .int v48, .ref v50, .int v52]) (n := 4) (mX6_compareRows l G e54) gX6_root_X6_compareRows rfl rfl rfl ndX6_compareRows ⟨Nat.le_of_ble_eq_true rfl, Nat.le_of_ble_eq_true rfl⟩ rfl hl.1 rfl (Nat.le_of_ble_eq_true rfl) dX6_root_177 ⟨Nat.zero_le _, Nat.zero_le _⟩) (fun H locs Y => ?_)
      refine lv_if_gt (tgt := 270) X.1 X.2.1 dX6_root_180 (by decide) (fun c56 => ?_) (fun c56 => ?_)
      · have hF := hp_ifp (c56) hF
        refine lv_aload_n X.1 X.2.1 dX6_root_270 rfl (lv_at hl 0 rfl) ?_
        refine lv_aload_n X.1 X.2.1 dX6_root_271 rfl (lv_at hl 0 rfl) ?_
        obtain ⟨v57, e58, hF⟩ := hp_b hF
        refine hp_getr X Y (C := RX6) (T := TX6) (N := 14) (ci := 6) (k := 7) rfl inX6_root_X6 (by decide) lkX6_root_f28 e58 dX6_root_272 ?_
        refine lv_aload_n X.1 X.2.1 dX6_root_275 rfl (lv_at hl 0 rfl) ?_
        obtain ⟨v59, e60, hF⟩ := hp_b hF
        refine hp_geti X Y (C := RX6) (T := TX6) (N := 14) (ci := 6) (k := 10) rfl inX6_root_X6 (by decide) lkX6_root_f89 e60 dX6_root_276 ?_
        refine lv_aload_n X.1 X.2.1 dX6_root_279 rfl (lv_at hl 0 rfl) ?_
        obtain ⟨v61, e62, hF⟩ := hp_b hF
        refine hp_getr X Y (C := RX6) (T := TX6) (N := 14) (ci := 6) (k := 6) rfl inX6_root_X6 (by decide) lkX6_root_f25 e62 dX6_root_280 ?_
        refine lv_aload_n X.1 X.2.1 dX6_root_283 rfl (lv_at hl 0 rfl) ?_
        obtain ⟨v63, e64, hF⟩ := hp_b hF
        refine hp_geti X Y (C := RX6) (T := TX6) (N := 14) (ci := 6) (k := 9) rfl inX6_root_X6 (by decide) lkX6_root_f55 e64 dX6_root_284 ?_
        obtain ⟨⟨v67, h66⟩, e65, hF⟩ := hp_b hF
        refine hp_ci Y (hp_runS X Y (As := [.ref v57, .int v59, .ref v61, .int v63]) (n := 4) (mX6_taken l G e65) gX6_root_X6_taken rfl rfl rfl ndX6_taken ⟨Nat.le_of_ble_eq_true rfl, Nat.le_of_ble_eq_true rfl⟩ rfl hl.1 rfl (Nat.le_of_ble_eq_true rfl) dX6_root_287 ⟨Nat.zero_le _, Nat.zero_le _⟩) (fun H locs Y => ?_)
        obtain ⟨h69, e70, hF⟩ := hp_b hF
        refine hp_put X Y (C := RX6) (T := TX6) (N := 14) (ci := 6) (k := 10) (ty0 := tyX6) rfl inX6_root_X6 tyX6_ok nmX6 (by decide) lkX6_root_f89 rfl rfl rfl e70 dX6_root_290 (fun H locs Y => ?_)
        refine lv_aload_n X.1 X.2.1 dX6_root_293 rfl (lv_at hl 0 rfl) ?_
        refine lv_aload_n X.1 X.2.1 dX6_root_294 rfl (lv_at hl 0 rfl) ?_
        obtain ⟨v71, e72, hF⟩ := hp_b hF
        refine hp_getr X Y (C := RX6) (T := TX6) (N := 14) (ci := 6) (k := 7) rfl inX6_root_X6 (by decide) lkX6_root_f28 e72 dX6_root_295 ?_
        refine lv_aload_n X.1 X.2.1 dX6_root_298 rfl (lv_at hl 0 rfl) ?_
        obtain ⟨v73, e74, hF⟩ := hp_b hF
        refine hp_geti X Y (C := RX6) (T := TX6) (N := 14) (ci := 6) (k := 10) rfl inX6_root_X6 (by decide) lkX6_root_f89 e74 dX6_root_299 ?_
        obtain ⟨⟨v77, h76⟩, e75, hF⟩ := hp_b hF
        refine hp_ci Y (hp_runS X Y (As := [.ref v71, .int v73]) (n := 2) (mX6_half l G e75) gX6_root_X6_half rfl rfl rfl ndX6_half ⟨Nat.le_of_ble_eq_true rfl, Nat.le_of_ble_eq_true rfl⟩ rfl hl.1 rfl (Nat.le_of_ble_eq_true rfl) dX6_root_302 ⟨Nat.zero_le _, Nat.zero_le _⟩) (fun H locs Y => ?_)
        obtain ⟨h79, e80, hF⟩ := hp_b hF
        refine hp_put X Y (C := RX6) (T := TX6) (N := 14) (ci := 6) (k := 10) (ty0 := tyX6) rfl inX6_root_X6 tyX6_ok nmX6 (by decide) lkX6_root_f89 rfl rfl rfl e80 dX6_root_305 (fun H locs Y => ?_)
        refine lv_goto (tgt := 101) X.1 X.2.1 dX6_root_308 (by decide) ?_
        exact ih Y (lv_sub hl [0, 1] rfl) hF
      · have hF := hp_ifn (c56) hF
        refine lv_aload_n X.1 X.2.1 dX6_root_183 rfl (lv_at hl 0 rfl) ?_
        refine lv_aload_n X.1 X.2.1 dX6_root_184 rfl (lv_at hl 0 rfl) ?_
        obtain ⟨v81, e82, hF⟩ := hp_b hF
        refine hp_getr X Y (C := RX6) (T := TX6) (N := 14) (ci := 6) (k := 5) rfl inX6_root_X6 (by decide) lkX6_root_f22 e82 dX6_root_185 ?_
        refine lv_aload_n X.1 X.2.1 dX6_root_188 rfl (lv_at hl 0 rfl) ?_
        obtain ⟨v83, e84, hF⟩ := hp_b hF
        refine hp_geti X Y (C := RX6) (T := TX6) (N := 14) (ci := 6) (k := 8) rfl inX6_root_X6 (by decide) lkX6_root_f34 e84 dX6_root_189 ?_
        refine lv_aload_n X.1 X.2.1 dX6_root_192 rfl (lv_at hl 0 rfl) ?_
        obtain ⟨v85, e86, hF⟩ := hp_b hF
        refine hp_getr X Y (C := RX6) (T := TX6) (N := 14) (ci := 6) (k := 7) rfl inX6_root_X6 (by decide) lkX6_root_f28 e86 dX6_root_193 ?_
        refine lv_aload_n X.1 X.2.1 dX6_root_196 rfl (lv_at hl 0 rfl) ?_
        obtain ⟨v87, e88, hF⟩ := hp_b hF
        refine hp_geti X Y (C := RX6) (T := TX6) (N := 14) (ci := 6) (k := 10) rfl inX6_root_X6 (by decide) lkX6_root_f89 e88 dX6_root_197 ?_
        obtain ⟨⟨v91, h90⟩, e89, hF⟩ := hp_b hF
        refine hp_ci Y (hp_runS X Y (As := [.ref v81, .int v83, .ref v85, .int v87]) (n := 4) (mX6_taken l G e89) gX6_root_X6_taken rfl rfl rfl ndX6_taken ⟨Nat.le_of_ble_eq_true rfl, Nat.le_of_ble_eq_true rfl⟩ rfl hl.1 rfl (Nat.le_of_ble_eq_true rfl) dX6_root_200 ⟨Nat.zero_le _, Nat.zero_le _⟩) (fun H locs Y => ?_)
        obtain ⟨h93, e94, hF⟩ := hp_b hF
        refine hp_put X Y (C := RX6) (T := TX6) (N := 14) (ci := 6) (k := 8) (ty0 := tyX6) rfl inX6_root_X6 tyX6_ok nmX6 (by decide) lkX6_root_f34 rfl rfl rfl e94 dX6_root_203 (fun H locs Y => ?_)
        refine lv_aload_n X.1 X.2.1 dX6_root_206 rfl (lv_at hl 0 rfl) ?_
        refine lv_aload_n X.1 X.2.1 dX6_root_207 rfl (lv_at hl 0 rfl) ?_
        obtain ⟨v95, e96, hF⟩ := hp_b hF
        refine hp_getr X Y (C := RX6) (T := TX6) (N := 14) (ci := 6) (k := 7) rfl inX6_root_X6 (by decide) lkX6_root_f28 e96 dX6_root_208 ?_
        refine lv_aload_n X.1 X.2.1 dX6_root_211 rfl (lv_at hl 0 rfl) ?_
        obtain ⟨v97, e98, hF⟩ := hp_b hF
        refine hp_geti X Y (C := RX6) (T := TX6) (N := 14) (ci := 6) (k := 10) rfl inX6_root_X6 (by decide) lkX6_root_f89 e98 dX6_root_212 ?_
        refine lv_aload_n X.1 X.2.1 dX6_root_215 rfl (lv_at hl 0 rfl) ?_
        obtain ⟨v99, e100, hF⟩ := hp_b hF
        refine hp_getr X Y (C := RX6) (T := TX6) (N := 14) (ci := 6) (k := 6) rfl inX6_root_X6 (by decide) lkX6_root_f25 e100 dX6_root_216 ?_
        refine lv_aload_n X.1 X.2.1 dX6_root_219 rfl (lv_at hl 0 rfl) ?_
        obtain ⟨v101, e102, hF⟩ := hp_b hF
        refine hp_geti X Y (C := RX6) (T := TX6) (N := 14) (ci := 6) (k := 9) rfl inX6_root_X6 (by decide) lkX6_root_f55 e102 dX6_root_220 ?_
        obtain ⟨⟨v105, h104⟩, e103, hF⟩ := hp_b hF
        refine hp_ci Y (hp_runS X Y (As := [.ref v95, .int v97, .ref v99, .int v101]) (n := 4) (mX6_taken l G e103) gX6_root_X6_taken rfl rfl rfl ndX6_taken ⟨Nat.le_of_ble_eq_true rfl, Nat.le_of_ble_eq_true rfl⟩ rfl hl.1 rfl (Nat.le_of_ble_eq_true rfl) dX6_root_223 ⟨Nat.zero_le _, Nat.zero_le _⟩) (fun H locs Y => ?_)
        obtain ⟨h107, e108, hF⟩ := hp_b hF
        refine hp_put X Y (C := RX6) (T := TX6) (N := 14) (ci := 6) (k := 10) (ty0 := tyX6) rfl inX6_root_X6 tyX6_ok nmX6 (by decide) lkX6_root_f89 rfl rfl rfl e108 dX6_root_226 (fun H locs Y => ?_)
        refine lv_aload_n X.1 X.2.1 dX6_root_229 rfl (lv_at hl 0 rfl) ?_
        refine lv_aload_n X.1 X.2.1 dX6_root_230 rfl (lv_at hl 0 rfl) ?_
        obtain ⟨v109, e110, hF⟩ := hp_b hF
        refine hp_getr X Y (C := RX6) (T := TX6) (N := 14) (ci := 6) (k := 7) rfl inX6_root_X6 (by decide) lkX6_root_f28 e110 dX6_root_231 ?_
        refine lv_aload_n X.1 X.2.1 dX6_root_234 rfl (lv_at hl 0 rfl) ?_
        obtain ⟨v111, e112, hF⟩ := hp_b hF
        refine hp_geti X Y (C := RX6) (T := TX6) (N := 14) (ci := 6) (k := 10) rfl inX6_root_X6 (by decide) lkX6_root_f89 e112 dX6_root_235 ?_
        obtain ⟨⟨v115, h114⟩, e113, hF⟩ := hp_b hF
        refine hp_ci Y (hp_runS X Y (As := [.ref v109, .int v111]) (n := 2) (mX6_half l G e113) gX6_root_X6_half rfl rfl rfl ndX6_half ⟨Nat.le_of_ble_eq_true rfl, Nat.le_of_ble_eq_true rfl⟩ rfl hl.1 rfl (Nat.le_of_ble_eq_true rfl) dX6_root_238 ⟨Nat.zero_le _, Nat.zero_le _⟩) (fun H locs Y => ?_)
        obtain ⟨h117, e118, hF⟩ := hp_b hF
        refine hp_put X Y (C := RX6) (T := TX6) (N := 14) (ci := 6) (k := 10) (ty0 := tyX6) rfl inX6_root_X6 tyX6_ok nmX6 (by decide) lkX6_root_f89 rfl rfl rfl e118 dX6_root_241 (fun H locs Y => ?_)
        refine lv_aload_n X.1 X.2.1 dX6_root_244 rfl (lv_at hl 0 rfl) ?_
        refine lv_aload_n X.1 X.2.1 dX6_root_245 rfl (lv_at hl 0 rfl) ?_
        obtain ⟨v119, e120, hF⟩ := hp_b hF
        refine hp_getr X Y (C := RX6) (T := TX6) (N := 14) (ci := 6) (k := 7) rfl inX6_root_X6 (by decide) lkX6_root_f28 e120 dX6_root_246 ?_
        refine lv_aload_n X.1 X.2.1 dX6_root_249 rfl (lv_at hl 0 rfl) ?_
        obtain ⟨v121, e122, hF⟩ := hp_b hF
        refine hp_geti X Y (C := RX6) (T := TX6) (N := 14) (ci := 6) (k := 10) rfl inX6_root_X6 (by decide) lkX6_root_f89 e122 dX6_root_250 ?_
        refine lv_aload_n X.1 X.2.1 dX6_root_253 rfl (lv_at hl 0 rfl) ?_
        obtain ⟨v123, e124, hF⟩ := hp_b hF
        refine hp_getr X Y (C := RX6) (T := TX6) (N := 14) (ci := 6) (k := 6) rfl inX6_root_X6 (by decide) lkX6_root_f25 e124 dX6_root_254 ?_
        refine lv_aload_n X.1 X.2.1 dX6_root_257 rfl (lv_at hl 0 rfl) ?_
        obtain ⟨v125, e126, hF⟩ := hp_b hF
        refine hp_geti X Y (C := RX6) (T := TX6) (N := 14) (ci := 6) (k := 9) rfl inX6_root_X6 (by decide) lkX6_root_f55 e126 dX6_root_258 ?_
        obtain ⟨⟨v129, h128⟩, e127, hF⟩ := hp_b hF
        refine hp_ci Y (hp_runS X Y (As := [.ref v119, .int v121, .ref v123, .int v125]) (n := 4) (mX6_added l G e127) gX6_root_X6_added rfl rfl rfl ndX6_added ⟨Nat.le_of_ble_eq_true rfl, Nat.le_of_ble_eq_true rfl⟩ rfl hl.1 rfl (Nat.le_of_ble_eq_true rfl) dX6_root_261 ⟨Nat.zero_le _, Nat.zero_le _⟩) (fun H locs Y => ?_)
        obtain ⟨h131, e132, hF⟩ := hp_b hF
        refine hp_put X Y (C := RX6) (T := TX6) (N := 14) (ci := 6) (k := 10) (ty0 := tyX6) rfl inX6_root_X6 tyX6_ok nmX6 (by decide) lkX6_root_f89 rfl rfl rfl e132 dX6_root_264 (fun H locs Y => ?_)
        refine lv_goto (tgt := 101) X.1 X.2.1 dX6_root_267 (by decide) ?_
        exact ih Y (lv_sub hl [0, 1] rfl) hF
set_option maxRecDepth 100000 in
set_option maxHeartbeats 4000000 in
theorem wX6_root_54 {p : Program} {l : Launch} {e : Env} {s : State} {m : MethodId} {args : Array Value} {below : List Frame} {meth : Method} {c : Code} {G : hp_G} {h0 h' : hp_H} {r : Int32} (X : hp_X p s m args meth c cX6_root 3 RX6 wsX6_root (some .int) G)  {x0 : Nat} {x1 : Int32}   : ∀ (n : Nat) {h : hp_H} {H : Heap} {locs : List Loc} {ls : Array Slot} (Y : hp_Y G h h0 s H locs) (hl : lv_has ls 3 [(0, .ref x0), (1, .int x1)]) (hF : bX6_root_54 x0 x1 n h = some (r, h')), W p l e rmX6_root s m args below meth c H locs 0 0 (MQ below (va_Qi (fun r' u => r' = r ∧ u = h') (hp_B G h0) (hp_A h0)) args s 0 0 (hp_A h0)) (F0 m 54 ls []) := by
  intro n
  induction n with
  | zero =>
    intro h H locs ls Y hl hF
    exact absurd (show none = some _ from hF) (by simp)
  | succ n ih =>
    intro h H locs ls Y hl hF
    rw [bX6_root_54] at hF
    refine lv_aload_n X.1 X.2.1 dX6_root_54 rfl (lv_at hl 0 rfl) ?_
    obtain ⟨v1, e2, hF⟩ := hp_b hF
    refine hp_getr X Y (C := RX6) (T := TX6) (N := 14) (ci := 6) (k := 6) rfl inX6_root_X6 (by decide) lkX6_root_f25 e2 dX6_root_55 ?_
    refine lv_aload_n X.1 X.2.1 dX6_root_58 rfl (lv_at hl 0 rfl) ?_
    obtain ⟨v3, e4, hF⟩ := hp_b hF
    refine hp_geti X Y (C := RX6) (T := TX6) (N := 14) (ci := 6) (k := 9) rfl inX6_root_X6 (by decide) lkX6_root_f55 e4 dX6_root_59 ?_
    refine lv_aload_n X.1 X.2.1 dX6_root_62 rfl (lv_at hl 0 rfl) ?_
    obtain ⟨v5, e6, hF⟩ := hp_b hF
    refine hp_getr X Y (C := RX6) (T := TX6) (N := 14) (ci := 6) (k := 5) rfl inX6_root_X6 (by decide) lkX6_root_f22 e6 dX6_root_63 ?_
    refine lv_aload_n X.1 X.2.1 dX6_root_66 rfl (lv_at hl 0 rfl) ?_
    obtain ⟨v7, e8, hF⟩ := hp_b hF
    refine hp_geti X Y (C := RX6) (T := TX6) (N := 14) (ci := 6) (k := 8) rfl inX6_root_X6 (by decide) lkX6_root_f34 e8 dX6_root_67 ?_
    obtain ⟨v10, e9, hF⟩ := hp_b hF
    refine hp_ci Y (hp_runS X Y (As := [.ref v1, .int v3, .ref v5, .int v7]) (n := 4) (mX6_compareRows l G e9) gX6_root_X6_compareRows rfl rfl rfl ndX6_compareRows ⟨Nat.le_of_ble_eq_true rfl, Nat.le_of_ble_eq_true rfl⟩ rfl hl.1 rfl (Nat.le_of_ble_eq_true rfl) dX6_root_70 ⟨Nat.zero_le _, Nat.zero_le _⟩) (fun H locs Y => ?_)
    refine lv_if_gt (tgt := 96) X.1 X.2.1 dX6_root_73 (by decide) (fun c11 => ?_) (fun c11 => ?_)
    · have hF := hp_ifp (c11) hF
      refine lv_aload_n X.1 X.2.1 dX6_root_96 rfl (lv_at hl 0 rfl) ?_
      refine lv_iconst (v := 0) X.1 X.2.1 dX6_root_97 (by decide) ?_
      obtain ⟨h12, e13, hF⟩ := hp_b hF
      refine hp_put X Y (C := RX6) (T := TX6) (N := 14) (ci := 6) (k := 10) (ty0 := tyX6) rfl inX6_root_X6 tyX6_ok nmX6 (by decide) lkX6_root_f89 rfl rfl rfl e13 dX6_root_98 (fun H locs Y => ?_)
      exact wX6_root_101 X  hp_n Y (lv_sub hl [0, 1] rfl) hF
    · have hF := hp_ifn (c11) hF
      refine lv_aload_n X.1 X.2.1 dX6_root_76 rfl (lv_at hl 0 rfl) ?_
      refine lv_aload_n X.1 X.2.1 dX6_root_77 rfl (lv_at hl 0 rfl) ?_
      obtain ⟨v14, e15, hF⟩ := hp_b hF
      refine hp_getr X Y (C := RX6) (T := TX6) (N := 14) (ci := 6) (k := 6) rfl inX6_root_X6 (by decide) lkX6_root_f25 e15 dX6_root_78 ?_
      refine lv_aload_n X.1 X.2.1 dX6_root_81 rfl (lv_at hl 0 rfl) ?_
      obtain ⟨v16, e17, hF⟩ := hp_b hF
      refine hp_geti X Y (C := RX6) (T := TX6) (N := 14) (ci := 6) (k := 9) rfl inX6_root_X6 (by decide) lkX6_root_f55 e17 dX6_root_82 ?_
      refine lv_iconst (v := 4) X.1 X.2.1 dX6_root_85 (by decide) ?_
      refine lv_iconst (v := 0) X.1 X.2.1 dX6_root_86 (by decide) ?_
      obtain ⟨⟨v20, h19⟩, e18, hF⟩ := hp_b hF
      refine hp_ci Y (hp_runS X Y (As := [.ref v14, .int v16, .int (4 : Int32), .int (0 : Int32)]) (n := 4) (mX6_scaled l G e18) gX6_root_X6_scaled rfl rfl rfl ndX6_scaled ⟨Nat.le_of_ble_eq_true rfl, Nat.le_of_ble_eq_true rfl⟩ rfl hl.1 rfl (Nat.le_of_ble_eq_true rfl) dX6_root_87 ⟨Nat.zero_le _, Nat.zero_le _⟩) (fun H locs Y => ?_)
      obtain ⟨h22, e23, hF⟩ := hp_b hF
      refine hp_put X Y (C := RX6) (T := TX6) (N := 14) (ci := 6) (k := 9) (ty0 := tyX6) rfl inX6_root_X6 tyX6_ok nmX6 (by decide) lkX6_root_f55 rfl rfl rfl e23 dX6_root_90 (fun H locs Y => ?_)
      refine lv_goto (tgt := 54) X.1 X.2.1 dX6_root_93 (by decide) ?_
      exact ih Y (lv_sub hl [0, 1] rfl) hF
theorem oX6_root {x0 : Nat} {x1 : Int32} {x2 : Int32} {h h' : hp_H} {r : Int32} (hF : fX6_root x0 x1 x2 h = some (r, h')) : hp_o h x0 6 = true := by
  unfold fX6_root at hF
  exact (hp_ift hF).1
set_option maxRecDepth 100000 in
set_option maxHeartbeats 4000000 in
theorem mX6_root (l : Launch) (G : hp_G) {x0 : Nat} {x1 : Int32} {x2 : Int32} {h h' : hp_H} {r : Int32} (hF : fX6_root x0 x1 x2 h = some (r, h')) : Met l yX6_root wsX6_root rmX6_root (va_Pc [.ref x0, .int x1, .int x2] (hp_S G h)) (va_Qi (fun r' u => r' = r ∧ u = h') (hp_B G h) (hp_A h)) 0 0 (hp_A h) := by
  refine hp_met (cc := cX6_root) (nL := 3) (ret := (some .int)) (by decide) rfl ?_
  intro p e s m below meth c X Y
  have hl := lv_entry ([.ref x0, .int x1, .int x2]) (n := 3) (Nat.le_of_ble_eq_true rfl)
  rw [lg_entry_eq]
  generalize (lg_sl ([.ref x0, .int x1, .int x2]) ++ List.replicate (3 - (lg_sl ([.ref x0, .int x1, .int x2])).length) Slot.unset).toArray = ls at hl ⊢
  have hl : lv_has ls 3 [(0, .ref x0), (1, .int x1), (2, .int x2)] := hl
  unfold fX6_root at hF
  obtain ⟨ho, hF⟩ := hp_ift hF
  refine lv_aload_n X.1 X.2.1 dX6_root_0 rfl (lv_at hl 0 rfl) ?_
  refine lv_iconst (v := 0) X.1 X.2.1 dX6_root_1 (by decide) ?_
  obtain ⟨h1, e2, hF⟩ := hp_b hF
  refine hp_put X Y (C := RX6) (T := TX6) (N := 14) (ci := 6) (k := 11) (ty0 := tyX6) rfl inX6_root_X6 tyX6_ok nmX6 (by decide) lkX6_root_f45 rfl rfl rfl e2 dX6_root_2 (fun H locs Y => ?_)
  refine lv_iload_n X.1 X.2.1 dX6_root_5 rfl (lv_at hl 1 rfl) ?_
  obtain ⟨v4, e3, hF⟩ := hp_b hF
  refine hp_ci Y (hp_runS X Y (As := [.int x1]) (n := 1) (mX6_isRegister l G e3) gX6_root_X6_isRegister rfl rfl rfl ndX6_isRegister ⟨Nat.le_of_ble_eq_true rfl, Nat.le_of_ble_eq_true rfl⟩ rfl hl.1 rfl (Nat.le_of_ble_eq_true rfl) dX6_root_6 ⟨Nat.zero_le _, Nat.zero_le _⟩) (fun H locs Y => ?_)
  refine lv_if_eq (tgt := 19) X.1 X.2.1 dX6_root_9 (by decide) (fun c5 => ?_) (fun c5 => ?_)
  · have hF := hp_ifp (c5) hF
    refine lv_iconst (v := -1) X.1 X.2.1 dX6_root_19 (by decide) ?_
    cases hF
    exact hp_ri X Y rfl rfl dX6_root_20
  · have hF := hp_ifn (c5) hF
    refine lv_iload_n X.1 X.2.1 dX6_root_12 rfl (lv_at hl 2 rfl) ?_
    obtain ⟨v7, e6, hF⟩ := hp_b hF
    refine hp_ci Y (hp_runS X Y (As := [.int x2]) (n := 1) (mX6_isRegister l G e6) gX6_root_X6_isRegister rfl rfl rfl ndX6_isRegister ⟨Nat.le_of_ble_eq_true rfl, Nat.le_of_ble_eq_true rfl⟩ rfl hl.1 rfl (Nat.le_of_ble_eq_true rfl) dX6_root_13 ⟨Nat.zero_le _, Nat.zero_le _⟩) (fun H locs Y => ?_)
    refine lv_if_ne (tgt := 21) X.1 X.2.1 dX6_root_16 (by decide) (fun c8 => ?_) (fun c8 => ?_)
    · have hF := hp_ifn (c8) hF
      refine lv_aload_n X.1 X.2.1 dX6_root_21 rfl (lv_at hl 0 rfl) ?_
      obtain ⟨v9, e10, hF⟩ := hp_b hF
      refine hp_getr X Y (C := RX6) (T := TX6) (N := 14) (ci := 6) (k := 2) rfl inX6_root_X6 (by decide) lkX6_root_f16 e10 dX6_root_22 ?_
      refine lv_iload_n X.1 X.2.1 dX6_root_25 rfl (lv_at hl 2 rfl) ?_
      obtain ⟨v11, e12, hF⟩ := hp_b hF
      refine hp_iald X Y e12 dX6_root_26 ?_
      refine lv_if_ge (tgt := 37) X.1 X.2.1 dX6_root_27 (by decide) (fun c13 => ?_) (fun c13 => ?_)
      · have hF := hp_ifp (c13) hF
        refine lv_aload_n X.1 X.2.1 dX6_root_37 rfl (lv_at hl 0 rfl) ?_
        refine lv_iload_n X.1 X.2.1 dX6_root_38 rfl (lv_at hl 2 rfl) ?_
        obtain ⟨h15, e14, hF⟩ := hp_b hF
        refine hp_cv Y (hp_runV X Y (ci := 6) (As := [.int x2]) (n := 1) (T := TX6) (N := 14) (mX6_toX l G e14) rfl (oX6_toX e14) gX6_root_X6_toX rfl rfl rfl ndX6_toX ⟨Nat.le_of_ble_eq_true rfl, Nat.le_of_ble_eq_true rfl⟩ rfl hl.1 rfl (Nat.le_of_ble_eq_true rfl) dX6_root_39 ⟨Nat.zero_le _, Nat.zero_le _⟩) (fun H locs Y => ?_)
        refine lv_aload_n X.1 X.2.1 dX6_root_42 rfl (lv_at hl 0 rfl) ?_
        obtain ⟨v16, e17, hF⟩ := hp_b hF
        refine hp_getr X Y (C := RX6) (T := TX6) (N := 14) (ci := 6) (k := 6) rfl inX6_root_X6 (by decide) lkX6_root_f25 e17 dX6_root_43 ?_
        refine lv_iconst (v := 0) X.1 X.2.1 dX6_root_46 (by decide) ?_
        refine lv_iconst (v := 1) X.1 X.2.1 dX6_root_47 (by decide) ?_
        obtain ⟨h18, e19, hF⟩ := hp_b hF
        refine hp_iast X Y e19 dX6_root_48 (fun H locs Y => ?_)
        refine lv_aload_n X.1 X.2.1 dX6_root_49 rfl (lv_at hl 0 rfl) ?_
        refine lv_iconst (v := 1) X.1 X.2.1 dX6_root_50 (by decide) ?_
        obtain ⟨h20, e21, hF⟩ := hp_b hF
        refine hp_put X Y (C := RX6) (T := TX6) (N := 14) (ci := 6) (k := 9) (ty0 := tyX6) rfl inX6_root_X6 tyX6_ok nmX6 (by decide) lkX6_root_f55 rfl rfl rfl e21 dX6_root_51 (fun H locs Y => ?_)
        exact wX6_root_54 X  hp_n Y (lv_sub hl [0, 1] rfl) hF
      · have hF := hp_ifn (c13) hF
        refine lv_aload_n X.1 X.2.1 dX6_root_30 rfl (lv_at hl 0 rfl) ?_
        refine lv_iconst (v := 1) X.1 X.2.1 dX6_root_31 (by decide) ?_
        obtain ⟨h22, e23, hF⟩ := hp_b hF
        refine hp_put X Y (C := RX6) (T := TX6) (N := 14) (ci := 6) (k := 11) (ty0 := tyX6) rfl inX6_root_X6 tyX6_ok nmX6 (by decide) lkX6_root_f45 rfl rfl rfl e23 dX6_root_32 (fun H locs Y => ?_)
        refine lv_iconst (v := 0) X.1 X.2.1 dX6_root_35 (by decide) ?_
        cases hF
        exact hp_ri X Y rfl rfl dX6_root_36
    · have hF := hp_ifp (c8) hF
      refine lv_iconst (v := -1) X.1 X.2.1 dX6_root_19 (by decide) ?_
      cases hF
      exact hp_ri X Y rfl rfl dX6_root_20
