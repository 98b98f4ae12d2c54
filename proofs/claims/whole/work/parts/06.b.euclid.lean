/-! WholeNumbers$Euclid.headFrom -/
def rmX0_headFrom : Room := { frames := 2, cells := 0, slots := 0, locals := 44 }
def fX0_headFrom (x0 : Nat) (x1 : Int32) (h : hp_H) : Option Int64 :=
  (fX2_limbFrom x0 (x1 + (30 : Int32)) h).bind fun v2 =>
  (fX2_limbFrom x0 x1 h).bind fun v4 =>
  some ((hp_lshl (Int32.toInt64 v2) (30 : Int32)) ||| (Int32.toInt64 v4))
theorem ndX0_headFrom : yX0_headFrom.cls ≠ "java/lang/invoke/MethodHandle" ∧ yX0_headFrom.cls ≠ "java/lang/invoke/VarHandle" ∧ (parseMethodDescriptor yX0_headFrom.desc).map (fun d => d.parameters.length) = some 2 := by decide +kernel
set_option maxRecDepth 100000 in
set_option maxHeartbeats 4000000 in
theorem mX0_headFrom (l : Launch) (G : hp_G) {x0 : Nat} {x1 : Int32} {h : hp_H} {r : Int64} (hF : fX0_headFrom x0 x1 h = some r) : Met l yX0_headFrom wsX0_headFrom rmX0_headFrom (va_Pc [.ref x0, .int x1] (hp_S G h)) (va_Ql (fun r' u => r' = r ∧ u = h) (hp_B G h) (hp_A h)) 0 0 (hp_A h) := by
  refine hp_met (cc := cX0_headFrom) (nL := 2) (ret := (some .long)) (by decide) rfl ?_
  intro p e s m below meth c X Y
  have hl := lv_entry ([.ref x0, .int x1]) (n := 2) (Nat.le_of_ble_eq_true rfl)
  rw [lg_entry_eq]
  generalize (lg_sl ([.ref x0, .int x1]) ++ List.replicate (2 - (lg_sl ([.ref x0, .int x1])).length) Slot.unset).toArray = ls at hl ⊢
  have hl : lv_has ls 2 [(0, .ref x0), (1, .int x1)] := hl
  unfold fX0_headFrom at hF
  refine lv_aload_n X.1 X.2.1 dX0_headFrom_0 rfl (lv_at hl 0 rfl) ?_
  refine lv_iload_n X.1 X.2.1 dX0_headFrom_1 rfl (lv_at hl 1 rfl) ?_
  refine lv_bipush (v := 30) X.1 X.2.1 dX0_headFrom_2 (by decide) ?_
  refine lv_iadd X.1 X.2.1 dX0_headFrom_4 ?_
  obtain ⟨v2, e1, hF⟩ := hp_b hF
  refine hp_ci Y (hp_runV X Y (ci := 2) (As := [.int (x1 + (30 : Int32))]) (n := 1) (T := TX2) (N := 2) (mX2_limbFrom l G e1) rfl (oX2_limbFrom e1) gX0_headFrom_X2_limbFrom rfl rfl rfl ndX2_limbFrom ⟨Nat.le_of_ble_eq_true rfl, Nat.le_of_ble_eq_true rfl⟩ rfl hl.1 rfl (Nat.le_of_ble_eq_true rfl) dX0_headFrom_5 ⟨Nat.zero_le _, Nat.zero_le _⟩) (fun H locs Y => ?_)
  refine lv_i2l (v := Int32.toInt64 v2) X.1 X.2.1 dX0_headFrom_8 rfl ?_
  refine lv_bipush (v := 30) X.1 X.2.1 dX0_headFrom_9 (by decide) ?_
  refine lv_lshl (v := hp_lshl (Int32.toInt64 v2) (30 : Int32)) X.1 X.2.1 dX0_headFrom_11 rfl ?_
  refine lv_aload_n X.1 X.2.1 dX0_headFrom_12 rfl (lv_at hl 0 rfl) ?_
  refine lv_iload_n X.1 X.2.1 dX0_headFrom_13 rfl (lv_at hl 1 rfl) ?_
  obtain ⟨v4, e3, hF⟩ := hp_b hF
  refine hp_ci Y (hp_runV X Y (ci := 2) (As := [.int x1]) (n := 1) (T := TX2) (N := 2) (mX2_limbFrom l G e3) rfl (oX2_limbFrom e3) gX0_headFrom_X2_limbFrom rfl rfl rfl ndX2_limbFrom ⟨Nat.le_of_ble_eq_true rfl, Nat.le_of_ble_eq_true rfl⟩ rfl hl.1 rfl (Nat.le_of_ble_eq_true rfl) dX0_headFrom_14 ⟨Nat.zero_le _, Nat.zero_le _⟩) (fun H locs Y => ?_)
  refine lv_i2l (v := Int32.toInt64 v4) X.1 X.2.1 dX0_headFrom_17 rfl ?_
  refine lv_lor X.1 X.2.1 dX0_headFrom_18 ?_
  cases hF
  exact hp_rj X Y rfl dX0_headFrom_19

/-! WholeNumbers$Euclid.foreseeSteps -/
def rmX0_foreseeSteps : Room := { frames := 3, cells := 0, slots := 0, locals := 65 }
def bX0_foreseeSteps_205  (x0 : Nat)  (h : hp_H) : Option (Int32 × hp_H) :=
  (hp_gj h x0 0 3).bind fun v1 =>
  if v1 = (0 : Int64) then (
    some ((0 : Int32), h))
  else (
    some ((1 : Int32), h))
def bX0_foreseeSteps_57  (x0 : Nat) : Nat → Int64 → Int64 → Int32 → hp_H → Option (Int32 × hp_H)
  | 0, _, _, _, _ => none
  | n + 1, x2, x4, x6, h =>
  if (120 : Int32) ≤ x6 then (
    bX0_foreseeSteps_205 x0 h)
  else (
    (hp_gj h x0 0 4).bind fun v2 =>
    if (x4 + v2) ≤ (0 : Int64) then (
      bX0_foreseeSteps_205 x0 h)
    else (
      (hp_gj h x0 0 5).bind fun v5 =>
      if (x4 + v5) ≤ (0 : Int64) then (
        bX0_foreseeSteps_205 x0 h)
      else (
        (hp_gj h x0 0 2).bind fun v8 =>
        (hp_gj h x0 0 4).bind fun v10 =>
        if ¬ (x4 + v10) = 0 then
        (some ((x2 + v8) / (x4 + v10))).bind fun v13 =>
        (hp_gj h x0 0 3).bind fun v15 =>
        (hp_gj h x0 0 5).bind fun v17 =>
        if ¬ (x4 + v17) = 0 then
        if v13 = ((x2 + v15) / (x4 + v17)) then (
          (hp_gj h x0 0 2).bind fun v21 =>
          (hp_gj h x0 0 4).bind fun v23 =>
          (some (v21 - (v13 * v23))).bind fun v25 =>
          (hp_gj h x0 0 3).bind fun v27 =>
          (hp_gj h x0 0 5).bind fun v29 =>
          (some (v27 - (v13 * v29))).bind fun v31 =>
          (some (x2 - (v13 * x4))).bind fun v33 =>
          (hp_gj h x0 0 4).bind fun v35 =>
          (hp_pv h x0 0 2 (.long v35)).bind fun h37 =>
          (hp_gj h37 x0 0 5).bind fun v39 =>
          (hp_pv h37 x0 0 3 (.long v39)).bind fun h41 =>
          (hp_pv h41 x0 0 4 (.long v25)).bind fun h43 =>
          (hp_pv h43 x0 0 5 (.long v31)).bind fun h45 =>
          (some (x6 + (1 : Int32))).bind fun v47 =>
          bX0_foreseeSteps_57 x0 n x4 v33 v47 h45)
        else (
          bX0_foreseeSteps_205 x0 h)
        else none
        else none)))
def fX0_foreseeSteps (x0 : Nat) (h : hp_H) : Option (Int32 × hp_H) :=
  if hp_o h x0 0 = true then
  (hp_gr h x0 0 0).bind fun v1 =>
  (fX2_bitLength v1 h).bind fun v4 =>
  (some (hp_max (v4 - (60 : Int32)) (0 : Int32))).bind fun v5 =>
  (hp_gr h x0 0 0).bind fun v7 =>
  (fX0_headFrom v7 v5 h).bind fun v10 =>
  (hp_gr h x0 0 1).bind fun v11 =>
  (fX0_headFrom v11 v5 h).bind fun v14 =>
  (hp_pv h x0 0 2 (.long (1 : Int64))).bind fun h15 =>
  (hp_pv h15 x0 0 3 (.long (0 : Int64))).bind fun h17 =>
  (hp_pv h17 x0 0 4 (.long (0 : Int64))).bind fun h19 =>
  (hp_pv h19 x0 0 5 (.long (1 : Int64))).bind fun h21 =>
  bX0_foreseeSteps_57 x0 hp_n v10 v14 (0 : Int32) h21
  else none
theorem inX0_foreseeSteps_X0 : ∀ w ∈ wsX00, w ∈ wsX0_foreseeSteps := by decide +kernel
theorem lkX0_foreseeSteps_f70 : Cond.fieldLink RX0 70 (TX0 3).1 (TX0 3).2.1 (TX0 3).2.2.1 ∈ wsX0_foreseeSteps := by decide +kernel
theorem lkX0_foreseeSteps_f73 : Cond.fieldLink RX0 73 (TX0 4).1 (TX0 4).2.1 (TX0 4).2.2.1 ∈ wsX0_foreseeSteps := by decide +kernel
theorem lkX0_foreseeSteps_f76 : Cond.fieldLink RX0 76 (TX0 5).1 (TX0 5).2.1 (TX0 5).2.2.1 ∈ wsX0_foreseeSteps := by decide +kernel
theorem lkX0_foreseeSteps_f66 : Cond.fieldLink RX0 66 (TX0 2).1 (TX0 2).2.1 (TX0 2).2.2.1 ∈ wsX0_foreseeSteps := by decide +kernel
theorem lkX0_foreseeSteps_f14 : Cond.fieldLink RX0 14 (TX0 0).1 (TX0 0).2.1 (TX0 0).2.2.1 ∈ wsX0_foreseeSteps := by decide +kernel
theorem lkX0_foreseeSteps_m56 : Cond.methodLink RX0 56 Lib.Math.max.name ∈ wsX0_foreseeSteps := by decide +kernel
theorem lkX0_foreseeSteps_ms_max : Cond.static Lib.Math.max.name ∈ wsX0_foreseeSteps := by decide +kernel
theorem lkX0_foreseeSteps_mi : Cond.initialized "java/lang/Math" ∈ wsX0_foreseeSteps := by decide +kernel
theorem lkX0_foreseeSteps_mc_max : Cond.code Lib.Math.max.name Lib.Math.max.code 2 (some .int) ∈ wsX0_foreseeSteps := by decide +kernel
theorem lkX0_foreseeSteps_f18 : Cond.fieldLink RX0 18 (TX0 1).1 (TX0 1).2.1 (TX0 1).2.2.1 ∈ wsX0_foreseeSteps := by decide +kernel
theorem ndX0_foreseeSteps : yX0_foreseeSteps.cls ≠ "java/lang/invoke/MethodHandle" ∧ yX0_foreseeSteps.cls ≠ "java/lang/invoke/VarHandle" ∧ (parseMethodDescriptor yX0_foreseeSteps.desc).map (fun d => d.parameters.length) = some 0 := by decide +kernel
set_option maxRecDepth 100000 in
set_option maxHeartbeats 4000000 in
theorem wX0_foreseeSteps_205 {p : Program} {l : Launch} {e : Env} {s : State} {m : MethodId} {args : Array Value} {below : List Frame} {meth : Method} {c : Code} {G : hp_G} {h0 h' : hp_H} {r : Int32} (X : hp_X p s m args meth c cX0_foreseeSteps 15 RX0 wsX0_foreseeSteps (some .boolean) G)  {x0 : Nat}   {h : hp_H} {H : Heap} {locs : List Loc} {ls : Array Slot} (Y : hp_Y G h h0 s H locs) (hl : lv_has ls 15 [(0, .ref x0)]) (hF : bX0_foreseeSteps_205 x0 h = some (r, h')) : W p l e rmX0_foreseeSteps s m args below meth c H locs 0 0 (MQ below (va_Qi (fun r' u => r' = r ∧ u = h') (hp_B G h0) (hp_A h0)) args s 0 0 (hp_A h0)) (F0 m 205 ls []) := by
  unfold bX0_foreseeSteps_205 at hF
  refine lv_aload_n X.1 X.2.1 dX0_foreseeSteps_205 rfl (lv_at hl 0 rfl) ?_
  obtain ⟨v1, e2, hF⟩ := hp_b hF
  refine hp_getj X Y (C := RX0) (T := TX0) (N := 6) (ci := 0) (k := 3) rfl inX0_foreseeSteps_X0 (by decide) lkX0_foreseeSteps_f70 e2 dX0_foreseeSteps_206 ?_
  refine lv_lconst (v := 0) X.1 X.2.1 dX0_foreseeSteps_209 (by decide) ?_
  refine W.lcmp X.1 X.2.1 dX0_foreseeSteps_210 ?_
  refine lv_if_eq (tgt := 218) X.1 X.2.1 dX0_foreseeSteps_211 (by decide) (fun c3 => ?_) (fun c3 => ?_)
  · have hF := hp_ifp ((lg_cmp_eq v1 (0 : Int64)).mp c3) hF
    refine lv_iconst (v := 0) X.1 X.2.1 dX0_foreseeSteps_218 (by decide) ?_
    cases hF
    exact hp_ri X Y rfl rfl dX0_foreseeSteps_219
  · have hF := hp_ifn (fun z => c3 ((lg_cmp_eq v1 (0 : Int64)).mpr z)) hF
    refine lv_iconst (v := 1) X.1 X.2.1 dX0_foreseeSteps_214 (by decide) ?_
    refine lv_goto (tgt := 219) X.1 X.2.1 dX0_foreseeSteps_215 (by decide) ?_
    cases hF
    exact hp_ri X Y rfl rfl dX0_foreseeSteps_219
set_option maxRecDepth 100000 in
set_option maxHeartbeats 4000000 in
theorem wX0_foreseeSteps_57 {p : Program} {l : Launch} {e : Env} {s : State} {m : MethodId} {args : Array Value} {below : List Frame} {meth : Method} {c : Code} {G : hp_G} {h0 h' : hp_H} {r : Int32} (X : hp_X p s m args meth c cX0_foreseeSteps 15 RX0 wsX0_foreseeSteps (some .boolean) G)  {x0 : Nat}   : ∀ (n : Nat) {x2 : Int64} {x4 : Int64} {x6 : Int32} {h : hp_H} {H : Heap} {locs : List Loc} {ls : Array Slot} (Y : hp_Y G h h0 s H locs) (hl : lv_has ls 15 [(0, .ref x0), (2, .long x2), (4, .long x4), (6, .int x6)]) (hF : bX0_foreseeSteps_57 x0 n x2 x4 x6 h = some (r, h')), W p l e rmX0_foreseeSteps s m args below meth c H locs 0 0 (MQ below (va_Qi (fun r' u => r' = r ∧ u = h') (hp_B G h0) (hp_A h0)) args s 0 0 (hp_A h0)) (F0 m 57 ls []) := by
  intro n
  induction n with
  | zero =>
    intro x2 x4 x6 h H locs ls Y hl hF
    exact absurd (show none = some _ from hF) (by simp)
  | succ n ih =>
    intro x2 x4 x6 h H locs ls Y hl hF
    rw [bX0_foreseeSteps_57] at hF
    refine lv_iload X.1 X.2.1 dX0_foreseeSteps_57 (lv_at hl 3 rfl) ?_
    refine lv_bipush (v := 120) X.1 X.2.1 dX0_foreseeSteps_59 (by decide) ?_
    refine lv_icmp_ge (tgt := 205) X.1 X.2.1 dX0_foreseeSteps_61 (by decide) (fun c1 => ?_) (fun c1 => ?_)
    · have hF := hp_ifp (c1) hF
      exact wX0_foreseeSteps_205 X  Y (lv_sub hl [0] rfl) hF
    · have hF := hp_ifn (c1) hF
      refine lv_lload X.1 X.2.1 dX0_foreseeSteps_64 (lv_at hl 2 rfl) ?_
      refine lv_aload_n X.1 X.2.1 dX0_foreseeSteps_66 rfl (lv_at hl 0 rfl) ?_
      obtain ⟨v2, e3, hF⟩ := hp_b hF
      refine hp_getj X Y (C := RX0) (T := TX0) (N := 6) (ci := 0) (k := 4) rfl inX0_foreseeSteps_X0 (by decide) lkX0_foreseeSteps_f73 e3 dX0_foreseeSteps_67 ?_
      refine lv_ladd X.1 X.2.1 dX0_foreseeSteps_70 ?_
      refine lv_lconst (v := 0) X.1 X.2.1 dX0_foreseeSteps_71 (by decide) ?_
      refine W.lcmp X.1 X.2.1 dX0_foreseeSteps_72 ?_
      refine lv_if_le (tgt := 205) X.1 X.2.1 dX0_foreseeSteps_73 (by decide) (fun c4 => ?_) (fun c4 => ?_)
      · have hF := hp_ifp ((lg_cmp_le (x4 + v2) (0 : Int64)).mp c4) hF
        exact wX0_foreseeSteps_205 X  Y (lv_sub hl [0] rfl) hF
      · have hF := hp_ifn (fun z => c4 ((lg_cmp_le (x4 + v2) (0 : Int64)).mpr z)) hF
        refine lv_lload X.1 X.2.1 dX0_foreseeSteps_76 (lv_at hl 2 rfl) ?_
        refine lv_aload_n X.1 X.2.1 dX0_foreseeSteps_78 rfl (lv_at hl 0 rfl) ?_
        obtain ⟨v5, e6, hF⟩ := hp_b hF
        refine hp_getj X Y (C := RX0) (T := TX0) (N := 6) (ci := 0) (k := 5) rfl inX0_foreseeSteps_X0 (by decide) lkX0_foreseeSteps_f76 e6 dX0_foreseeSteps_79 ?_
        refine lv_ladd X.1 X.2.1 dX0_foreseeSteps_82 ?_
        refine lv_lconst (v := 0) X.1 X.2.1 dX0_foreseeSteps_83 (by decide) ?_
        refine W.lcmp X.1 X.2.1 dX0_foreseeSteps_84 ?_
        refine lv_if_le (tgt := 205) X.1 X.2.1 dX0_foreseeSteps_85 (by decide) (fun c7 => ?_) (fun c7 => ?_)
        · have hF := hp_ifp ((lg_cmp_le (x4 + v5) (0 : Int64)).mp c7) hF
          exact wX0_foreseeSteps_205 X  Y (lv_sub hl [0] rfl) hF
        · have hF := hp_ifn (fun z => c7 ((lg_cmp_le (x4 + v5) (0 : Int64)).mpr z)) hF
          refine lv_lload_n X.1 X.2.1 dX0_foreseeSteps_88 rfl (lv_at hl 1 rfl) ?_
          refine lv_aload_n X.1 X.2.1 dX0_foreseeSteps_89 rfl (lv_at hl 0 rfl) ?_
          obtain ⟨v8, e9, hF⟩ := hp_b hF
          refine hp_getj X Y (C := RX0) (T := TX0) (N := 6) (ci := 0) (k := 2) rfl inX0_foreseeSteps_X0 (by decide) lkX0_foreseeSteps_f66 e9 dX0_foreseeSteps_90 ?_
          refine lv_ladd X.1 X.2.1 dX0_foreseeSteps_93 ?_
          refine lv_lload X.1 X.2.1 dX0_foreseeSteps_94 (lv_at hl 2 rfl) ?_
          refine lv_aload_n X.1 X.2.1 dX0_foreseeSteps_96 rfl (lv_at hl 0 rfl) ?_
          obtain ⟨v10, e11, hF⟩ := hp_b hF
          refine hp_getj X Y (C := RX0) (T := TX0) (N := 6) (ci := 0) (k := 4) rfl inX0_foreseeSteps_X0 (by decide) lkX0_foreseeSteps_f73 e11 dX0_foreseeSteps_97 ?_
          refine lv_ladd X.1 X.2.1 dX0_foreseeSteps_100 ?_
          obtain ⟨e12, hF⟩ := hp_ift hF
          refine lv_ldiv X.1 X.2.1 dX0_foreseeSteps_101 e12 ?_
          obtain ⟨v13, e14, hF⟩ := hp_b hF
          refine hp_tj (Option.some.inj e14) ?_
          refine lv_lstore (lv' := [(7, .long v13), (0, .ref x0), (2, .long x2), (4, .long x4), (6, .int x6)]) X.1 X.2.1 dX0_foreseeSteps_102 hl (by decide) rfl (fun ls hl => ?_)
          refine lv_lload X.1 X.2.1 dX0_foreseeSteps_104 (lv_at hl 0 rfl) ?_
          refine lv_lload_n X.1 X.2.1 dX0_foreseeSteps_106 rfl (lv_at hl 2 rfl) ?_
          refine lv_aload_n X.1 X.2.1 dX0_foreseeSteps_107 rfl (lv_at hl 1 rfl) ?_
          obtain ⟨v15, e16, hF⟩ := hp_b hF
          refine hp_getj X Y (C := RX0) (T := TX0) (N := 6) (ci := 0) (k := 3) rfl inX0_foreseeSteps_X0 (by decide) lkX0_foreseeSteps_f70 e16 dX0_foreseeSteps_108 ?_
          refine lv_ladd X.1 X.2.1 dX0_foreseeSteps_111 ?_
          refine lv_lload X.1 X.2.1 dX0_foreseeSteps_112 (lv_at hl 3 rfl) ?_
          refine lv_aload_n X.1 X.2.1 dX0_foreseeSteps_114 rfl (lv_at hl 1 rfl) ?_
          obtain ⟨v17, e18, hF⟩ := hp_b hF
          refine hp_getj X Y (C := RX0) (T := TX0) (N := 6) (ci := 0) (k := 5) rfl inX0_foreseeSteps_X0 (by decide) lkX0_foreseeSteps_f76 e18 dX0_foreseeSteps_115 ?_
          refine lv_ladd X.1 X.2.1 dX0_foreseeSteps_118 ?_
          obtain ⟨e19, hF⟩ := hp_ift hF
          refine lv_ldiv X.1 X.2.1 dX0_foreseeSteps_119 e19 ?_
          refine W.lcmp X.1 X.2.1 dX0_foreseeSteps_120 ?_
          refine lv_if_eq (tgt := 127) X.1 X.2.1 dX0_foreseeSteps_121 (by decide) (fun c20 => ?_) (fun c20 => ?_)
          · have hF := hp_ifp ((lg_cmp_eq v13 ((x2 + v15) / (x4 + v17))).mp c20) hF
            refine lv_aload_n X.1 X.2.1 dX0_foreseeSteps_127 rfl (lv_at hl 1 rfl) ?_
            obtain ⟨v21, e22, hF⟩ := hp_b hF
            refine hp_getj X Y (C := RX0) (T := TX0) (N := 6) (ci := 0) (k := 2) rfl inX0_foreseeSteps_X0 (by decide) lkX0_foreseeSteps_f66 e22 dX0_foreseeSteps_128 ?_
            refine lv_lload X.1 X.2.1 dX0_foreseeSteps_131 (lv_at hl 0 rfl) ?_
            refine lv_aload_n X.1 X.2.1 dX0_foreseeSteps_133 rfl (lv_at hl 1 rfl) ?_
            obtain ⟨v23, e24, hF⟩ := hp_b hF
            refine hp_getj X Y (C := RX0) (T := TX0) (N := 6) (ci := 0) (k := 4) rfl inX0_foreseeSteps_X0 (by decide) lkX0_foreseeSteps_f73 e24 dX0_foreseeSteps_134 ?_
            refine lv_lmul X.1 X.2.1 dX0_foreseeSteps_137 ?_
            refine lv_lsub X.1 X.2.1 dX0_foreseeSteps_138 ?_
            obtain ⟨v25, e26, hF⟩ := hp_b hF
            refine hp_tj (Option.some.inj e26) ?_
            refine lv_lstore (lv' := [(9, .long v25), (7, .long v13), (0, .ref x0), (2, .long x2), (4, .long x4), (6, .int x6)]) X.1 X.2.1 dX0_foreseeSteps_139 hl (by decide) rfl (fun ls hl => ?_)
            refine lv_aload_n X.1 X.2.1 dX0_foreseeSteps_141 rfl (lv_at hl 2 rfl) ?_
            obtain ⟨v27, e28, hF⟩ := hp_b hF
            refine hp_getj X Y (C := RX0) (T := TX0) (N := 6) (ci := 0) (k := 3) rfl inX0_foreseeSteps_X0 (by decide) lkX0_foreseeSteps_f70 e28 dX0_foreseeSteps_142 ?_
            refine lv_lload X.1 X.2.1 dX0_foreseeSteps_145 (lv_at hl 1 rfl) ?_
            refine lv_aload_n X.1 X.2.1 dX0_foreseeSteps_147 rfl (lv_at hl 2 rfl) ?_
            obtain ⟨v29, e30, hF⟩ := hp_b hF
            refine hp_getj X Y (C := RX0) (T := TX0) (N := 6) (ci := 0) (k := 5) rfl inX0_foreseeSteps_X0 (by decide) lkX0_foreseeSteps_f76 e30 dX0_foreseeSteps_148 ?_
            refine lv_lmul X.1 X.2.1 dX0_foreseeSteps_151 ?_
            refine lv_lsub X.1 X.2.1 dX0_foreseeSteps_152 ?_
            obtain ⟨v31, e32, hF⟩ := hp_b hF
            refine hp_tj (Option.some.inj e32) ?_
            refine lv_lstore (lv' := [(11, .long v31), (9, .long v25), (7, .long v13), (0, .ref x0), (2, .long x2), (4, .long x4), (6, .int x6)]) X.1 X.2.1 dX0_foreseeSteps_153 hl (by decide) rfl (fun ls hl => ?_)
            refine lv_lload_n X.1 X.2.1 dX0_foreseeSteps_155 rfl (lv_at hl 4 rfl) ?_
            refine lv_lload X.1 X.2.1 dX0_foreseeSteps_156 (lv_at hl 2 rfl) ?_
            refine lv_lload X.1 X.2.1 dX0_foreseeSteps_158 (lv_at hl 5 rfl) ?_
            refine lv_lmul X.1 X.2.1 dX0_foreseeSteps_160 ?_
            refine lv_lsub X.1 X.2.1 dX0_foreseeSteps_161 ?_
            obtain ⟨v33, e34, hF⟩ := hp_b hF
            refine hp_tj (Option.some.inj e34) ?_
            refine lv_lstore (lv' := [(13, .long v33), (11, .long v31), (9, .long v25), (7, .long v13), (0, .ref x0), (2, .long x2), (4, .long x4), (6, .int x6)]) X.1 X.2.1 dX0_foreseeSteps_162 hl (by decide) rfl (fun ls hl => ?_)
            refine lv_aload_n X.1 X.2.1 dX0_foreseeSteps_164 rfl (lv_at hl 4 rfl) ?_
            refine lv_aload_n X.1 X.2.1 dX0_foreseeSteps_165 rfl (lv_at hl 4 rfl) ?_
            obtain ⟨v35, e36, hF⟩ := hp_b hF
            refine hp_getj X Y (C := RX0) (T := TX0) (N := 6) (ci := 0) (k := 4) rfl inX0_foreseeSteps_X0 (by decide) lkX0_foreseeSteps_f73 e36 dX0_foreseeSteps_166 ?_
            obtain ⟨h37, e38, hF⟩ := hp_b hF
            refine hp_put X Y (C := RX0) (T := TX0) (N := 6) (ci := 0) (k := 2) (ty0 := tyX0) rfl inX0_foreseeSteps_X0 tyX0_ok nmX0 (by decide) lkX0_foreseeSteps_f66 rfl rfl rfl e38 dX0_foreseeSteps_169 (fun H locs Y => ?_)
            refine lv_aload_n X.1 X.2.1 dX0_foreseeSteps_172 rfl (lv_at hl 4 rfl) ?_
            refine lv_aload_n X.1 X.2.1 dX0_foreseeSteps_173 rfl (lv_at hl 4 rfl) ?_
            obtain ⟨v39, e40, hF⟩ := hp_b hF
            refine hp_getj X Y (C := RX0) (T := TX0) (N := 6) (ci := 0) (k := 5) rfl inX0_foreseeSteps_X0 (by decide) lkX0_foreseeSteps_f76 e40 dX0_foreseeSteps_174 ?_
            obtain ⟨h41, e42, hF⟩ := hp_b hF
            refine hp_put X Y (C := RX0) (T := TX0) (N := 6) (ci := 0) (k := 3) (ty0 := tyX0) rfl inX0_foreseeSteps_X0 tyX0_ok nmX0 (by decide) lkX0_foreseeSteps_f70 rfl rfl rfl e42 dX0_foreseeSteps_177 (fun H locs Y => ?_)
            refine lv_lload X.1 X.2.1 dX0_foreseeSteps_180 (lv_at hl 6 rfl) ?_
            refine lv_lstore_n (lv' := [(2, .long x4), (13, .long v33), (11, .long v31), (9, .long v25), (7, .long v13), (0, .ref x0), (4, .long x4), (6, .int x6)]) X.1 X.2.1 dX0_foreseeSteps_182 rfl hl (by decide) rfl (fun ls hl => ?_)
            refine lv_aload_n X.1 X.2.1 dX0_foreseeSteps_183 rfl (lv_at hl 5 rfl) ?_
            refine lv_lload X.1 X.2.1 dX0_foreseeSteps_184 (lv_at hl 3 rfl) ?_
            obtain ⟨h43, e44, hF⟩ := hp_b hF
            refine hp_put X Y (C := RX0) (T := TX0) (N := 6) (ci := 0) (k := 4) (ty0 := tyX0) rfl inX0_foreseeSteps_X0 tyX0_ok nmX0 (by decide) lkX0_foreseeSteps_f73 rfl rfl rfl e44 dX0_foreseeSteps_186 (fun H locs Y => ?_)
            refine lv_aload_n X.1 X.2.1 dX0_foreseeSteps_189 rfl (lv_at hl 5 rfl) ?_
            refine lv_lload X.1 X.2.1 dX0_foreseeSteps_190 (lv_at hl 2 rfl) ?_
            obtain ⟨h45, e46, hF⟩ := hp_b hF
            refine hp_put X Y (C := RX0) (T := TX0) (N := 6) (ci := 0) (k := 5) (ty0 := tyX0) rfl inX0_foreseeSteps_X0 tyX0_ok nmX0 (by decide) lkX0_foreseeSteps_f76 rfl rfl rfl e46 dX0_foreseeSteps_192 (fun H locs Y => ?_)
            refine lv_lload X.1 X.2.1 dX0_foreseeSteps_195 (lv_at hl 1 rfl) ?_
            refine lv_lstore (lv' := [(4, .long v33), (2, .long x4), (13, .long v33), (11, .long v31), (9, .long v25), (7, .long v13), (0, .ref x0), (6, .int x6)]) X.1 X.2.1 dX0_foreseeSteps_197 hl (by decide) rfl (fun ls hl => ?_)
            obtain ⟨v47, e48, hF⟩ := hp_b hF
            refine lv_iinc (v := v47) (lv' := [(6, .int v47), (4, .long v33), (2, .long x4), (13, .long v33), (11, .long v31), (9, .long v25), (7, .long v13), (0, .ref x0)]) X.1 X.2.1 dX0_foreseeSteps_199 hl (k := 7) rfl (Option.some.inj e48) (by decide) rfl (fun ls hl => ?_)
            refine lv_goto (tgt := 57) X.1 X.2.1 dX0_foreseeSteps_202 (by decide) ?_
            exact ih Y (lv_sub hl [7, 2, 1, 0] rfl) hF
          · have hF := hp_ifn (fun z => c20 ((lg_cmp_eq v13 ((x2 + v15) / (x4 + v17))).mpr z)) hF
            refine lv_goto (tgt := 205) X.1 X.2.1 dX0_foreseeSteps_124 (by decide) ?_
            exact wX0_foreseeSteps_205 X  Y (lv_sub hl [1] rfl) hF
theorem oX0_foreseeSteps {x0 : Nat} {h h' : hp_H} {r : Int32} (hF : fX0_foreseeSteps x0 h = some (r, h')) : hp_o h x0 0 = true := by
  unfold fX0_foreseeSteps at hF
  exact (hp_ift hF).1
set_option maxRecDepth 100000 in
set_option maxHeartbeats 4000000 in
theorem mX0_foreseeSteps (l : Launch) (G : hp_G) {x0 : Nat} {h h' : hp_H} {r : Int32} (hF : fX0_foreseeSteps x0 h = some (r, h')) : Met l yX0_foreseeSteps wsX0_foreseeSteps rmX0_foreseeSteps (va_Pc [.ref x0] (hp_S G h)) (va_Qi (fun r' u => r' = r ∧ u = h') (hp_B G h) (hp_A h)) 0 0 (hp_A h) := by
  refine hp_met (cc := cX0_foreseeSteps) (nL := 15) (ret := (some .boolean)) (by decide) rfl ?_
  intro p e s m below meth c X Y
  have hl := lv_entry ([.ref x0]) (n := 15) (Nat.le_of_ble_eq_true rfl)
  rw [lg_entry_eq]
  generalize (lg_sl ([.ref x0]) ++ List.replicate (15 - (lg_sl ([.ref x0])).length) Slot.unset).toArray = ls at hl ⊢
  have hl : lv_has ls 15 [(0, .ref x0)] := hl
  unfold fX0_foreseeSteps at hF
  obtain ⟨ho, hF⟩ := hp_ift hF
  refine lv_aload_n X.1 X.2.1 dX0_foreseeSteps_0 rfl (lv_at hl 0 rfl) ?_
  obtain ⟨v1, e2, hF⟩ := hp_b hF
  refine hp_getr X Y (C := RX0) (T := TX0) (N := 6) (ci := 0) (k := 0) rfl inX0_foreseeSteps_X0 (by decide) lkX0_foreseeSteps_f14 e2 dX0_foreseeSteps_1 ?_
  obtain ⟨v4, e3, hF⟩ := hp_b hF
  refine hp_ci Y (hp_runV X Y (ci := 2) (As := []) (n := 0) (T := TX2) (N := 2) (mX2_bitLength l G e3) rfl (oX2_bitLength e3) gX0_foreseeSteps_X2_bitLength rfl rfl rfl ndX2_bitLength ⟨Nat.le_of_ble_eq_true rfl, Nat.le_of_ble_eq_true rfl⟩ rfl hl.1 rfl (Nat.le_of_ble_eq_true rfl) dX0_foreseeSteps_4 ⟨Nat.zero_le _, Nat.zero_le _⟩) (fun H locs Y => ?_)
  refine lv_bipush (v := 60) X.1 X.2.1 dX0_foreseeSteps_7 (by decide) ?_
  refine lv_isub X.1 X.2.1 dX0_foreseeSteps_9 ?_
  refine lv_iconst (v := 0) X.1 X.2.1 dX0_foreseeSteps_10 (by decide) ?_
  refine va_mmax X.1 X.2.1 (X.2.2.1.trans hl.1.symm) X.2.2.2.1 (X.2.2.2.2.1 _ lkX0_foreseeSteps_m56) (X.2.2.2.2.1 _ lkX0_foreseeSteps_ms_max) (X.2.2.2.2.1 _ lkX0_foreseeSteps_mi) (X.2.2.2.2.1 _ lkX0_foreseeSteps_mc_max) (Nat.le_of_ble_eq_true rfl) (Nat.le_of_ble_eq_true rfl) (Nat.zero_le _) (Nat.zero_le _) dX0_foreseeSteps_11 ?_
  obtain ⟨v5, e6, hF⟩ := hp_b hF
  refine hp_ti (Option.some.inj e6) ?_
  refine lv_istore_n (lv' := [(1, .int v5), (0, .ref x0)]) X.1 X.2.1 dX0_foreseeSteps_14 rfl hl (by decide) rfl (fun ls hl => ?_)
  refine lv_aload_n X.1 X.2.1 dX0_foreseeSteps_15 rfl (lv_at hl 1 rfl) ?_
  obtain ⟨v7, e8, hF⟩ := hp_b hF
  refine hp_getr X Y (C := RX0) (T := TX0) (N := 6) (ci := 0) (k := 0) rfl inX0_foreseeSteps_X0 (by decide) lkX0_foreseeSteps_f14 e8 dX0_foreseeSteps_16 ?_
  refine lv_iload_n X.1 X.2.1 dX0_foreseeSteps_19 rfl (lv_at hl 0 rfl) ?_
  obtain ⟨v10, e9, hF⟩ := hp_b hF
  refine hp_cj Y (hp_runS X Y (As := [.ref v7, .int v5]) (n := 2) (mX0_headFrom l G e9) gX0_foreseeSteps_X0_headFrom rfl rfl rfl ndX0_headFrom ⟨Nat.le_of_ble_eq_true rfl, Nat.le_of_ble_eq_true rfl⟩ rfl hl.1 rfl (Nat.le_of_ble_eq_true rfl) dX0_foreseeSteps_20 ⟨Nat.zero_le _, Nat.zero_le _⟩) (fun H locs Y => ?_)
  refine lv_lstore_n (lv' := [(2, .long v10), (1, .int v5), (0, .ref x0)]) X.1 X.2.1 dX0_foreseeSteps_23 rfl hl (by decide) rfl (fun ls hl => ?_)
  refine lv_aload_n X.1 X.2.1 dX0_foreseeSteps_24 rfl (lv_at hl 2 rfl) ?_
  obtain ⟨v11, e12, hF⟩ := hp_b hF
  refine hp_getr X Y (C := RX0) (T := TX0) (N := 6) (ci := 0) (k := 1) rfl inX0_foreseeSteps_X0 (by decide) lkX0_foreseeSteps_f18 e12 dX0_foreseeSteps_25 ?_
  refine lv_iload_n X.1 X.2.1 dX0_foreseeSteps_28 rfl (lv_at hl 1 rfl) ?_
  obtain ⟨v14, e13, hF⟩ := hp_b hF
  refine hp_cj Y (hp_runS X Y (As := [.ref v11, .int v5]) (n := 2) (mX0_headFrom l G e13) gX0_foreseeSteps_X0_headFrom rfl rfl rfl ndX0_headFrom ⟨Nat.le_of_ble_eq_true rfl, Nat.le_of_ble_eq_true rfl⟩ rfl hl.1 rfl (Nat.le_of_ble_eq_true rfl) dX0_foreseeSteps_29 ⟨Nat.zero_le _, Nat.zero_le _⟩) (fun H locs Y => ?_)
  refine lv_lstore (lv' := [(4, .long v14), (2, .long v10), (1, .int v5), (0, .ref x0)]) X.1 X.2.1 dX0_foreseeSteps_32 hl (by decide) rfl (fun ls hl => ?_)
  refine lv_aload_n X.1 X.2.1 dX0_foreseeSteps_34 rfl (lv_at hl 3 rfl) ?_
  refine lv_lconst (v := 1) X.1 X.2.1 dX0_foreseeSteps_35 (by decide) ?_
  obtain ⟨h15, e16, hF⟩ := hp_b hF
  refine hp_put X Y (C := RX0) (T := TX0) (N := 6) (ci := 0) (k := 2) (ty0 := tyX0) rfl inX0_foreseeSteps_X0 tyX0_ok nmX0 (by decide) lkX0_foreseeSteps_f66 rfl rfl rfl e16 dX0_foreseeSteps_36 (fun H locs Y => ?_)
  refine lv_aload_n X.1 X.2.1 dX0_foreseeSteps_39 rfl (lv_at hl 3 rfl) ?_
  refine lv_lconst (v := 0) X.1 X.2.1 dX0_foreseeSteps_40 (by decide) ?_
  obtain ⟨h17, e18, hF⟩ := hp_b hF
  refine hp_put X Y (C := RX0) (T := TX0) (N := 6) (ci := 0) (k := 3) (ty0 := tyX0) rfl inX0_foreseeSteps_X0 tyX0_ok nmX0 (by decide) lkX0_foreseeSteps_f70 rfl rfl rfl e18 dX0_foreseeSteps_41 (fun H locs Y => ?_)
  refine lv_aload_n X.1 X.2.1 dX0_foreseeSteps_44 rfl (lv_at hl 3 rfl) ?_
  refine lv_lconst (v := 0) X.1 X.2.1 dX0_foreseeSteps_45 (by decide) ?_
  obtain ⟨h19, e20, hF⟩ := hp_b hF
  refine hp_put X Y (C := RX0) (T := TX0) (N := 6) (ci := 0) (k := 4) (ty0 := tyX0) rfl inX0_foreseeSteps_X0 tyX0_ok nmX0 (by decide) lkX0_foreseeSteps_f73 rfl rfl rfl e20 dX0_foreseeSteps_46 (fun H locs Y => ?_)
  refine lv_aload_n X.1 X.2.1 dX0_foreseeSteps_49 rfl (lv_at hl 3 rfl) ?_
  refine lv_lconst (v := 1) X.1 X.2.1 dX0_foreseeSteps_50 (by decide) ?_
  obtain ⟨h21, e22, hF⟩ := hp_b hF
  refine hp_put X Y (C := RX0) (T := TX0) (N := 6) (ci := 0) (k := 5) (ty0 := tyX0) rfl inX0_foreseeSteps_X0 tyX0_ok nmX0 (by decide) lkX0_foreseeSteps_f76 rfl rfl rfl e22 dX0_foreseeSteps_51 (fun H locs Y => ?_)
  refine lv_iconst (v := 0) X.1 X.2.1 dX0_foreseeSteps_54 (by decide) ?_
  refine lv_istore (lv' := [(6, .int (0 : Int32)), (4, .long v14), (2, .long v10), (1, .int v5), (0, .ref x0)]) X.1 X.2.1 dX0_foreseeSteps_55 hl (by decide) rfl (fun ls hl => ?_)
  exact wX0_foreseeSteps_57 X  hp_n Y (lv_sub hl [4, 2, 1, 0] rfl) hF

/-! WholeNumbers$Euclid.takeForeseenSteps -/
def rmX0_takeForeseenSteps : Room := { frames := 2, cells := 0, slots := 0, locals := 43 }
def bX0_takeForeseenSteps_24  (x0 : Nat) (x1 : Int32) : Nat → Int64 → Int64 → Int32 → hp_H → Option hp_H
  | 0, _, _, _, _ => none
  | n + 1, x2, x4, x6, h =>
  if x1 ≤ x6 then (
    (hp_gr h x0 0 0).bind fun v2 =>
    (fX2_trim v2 x1 h).bind fun h5 =>
    (hp_gr h5 x0 0 1).bind fun v6 =>
    (fX2_trim v6 x1 h5).bind fun h9 =>
    some h9)
  else (
    (hp_gr h x0 0 0).bind fun v10 =>
    (hp_gr h v10 2 0).bind fun v12 =>
    (hp_ai h 0 v12 x6).bind fun v14 =>
    (some (Int32.toInt64 v14)).bind fun v16 =>
    (hp_gr h x0 0 1).bind fun v18 =>
    (hp_gr h v18 2 0).bind fun v20 =>
    (hp_ai h 0 v20 x6).bind fun v22 =>
    (some (Int32.toInt64 v22)).bind fun v24 =>
    (hp_gj h x0 0 2).bind fun v26 =>
    (hp_gj h x0 0 3).bind fun v28 =>
    (some (x2 + ((v26 * v16) + (v28 * v24)))).bind fun v30 =>
    (hp_gj h x0 0 4).bind fun v32 =>
    (hp_gj h x0 0 5).bind fun v34 =>
    (some (x4 + ((v32 * v16) + (v34 * v24)))).bind fun v36 =>
    (hp_gr h x0 0 0).bind fun v38 =>
    (hp_gr h v38 2 0).bind fun v40 =>
    (hp_si h 0 v40 x6 ((Int64.toInt32 v30) &&& (1073741823 : Int32))).bind fun h42 =>
    (hp_gr h42 x0 0 1).bind fun v44 =>
    (hp_gr h42 v44 2 0).bind fun v46 =>
    (hp_si h42 0 v46 x6 ((Int64.toInt32 v36) &&& (1073741823 : Int32))).bind fun h48 =>
    (some (hp_lshr v30 (30 : Int32))).bind fun v50 =>
    (some (hp_lshr v36 (30 : Int32))).bind fun v52 =>
    (some (x6 + (1 : Int32))).bind fun v54 =>
    bX0_takeForeseenSteps_24 x0 x1 n v50 v52 v54 h48)
def fX0_takeForeseenSteps (x0 : Nat) (h : hp_H) : Option hp_H :=
  if hp_o h x0 0 = true then
  (hp_gr h x0 0 0).bind fun v1 =>
  (hp_gi h v1 2 1).bind fun v3 =>
  (hp_gr h x0 0 1).bind fun v5 =>
  (fX2_padTo v5 v3 h).bind fun h8 =>
  bX0_takeForeseenSteps_24 x0 v3 hp_n (0 : Int64) (0 : Int64) (0 : Int32) h8
  else none
theorem inX0_takeForeseenSteps_X0 : ∀ w ∈ wsX00, w ∈ wsX0_takeForeseenSteps := by decide +kernel
theorem inX0_takeForeseenSteps_X2 : ∀ w ∈ wsX20, w ∈ wsX0_takeForeseenSteps := by decide +kernel
theorem lkX0_takeForeseenSteps_f14 : Cond.fieldLink RX0 14 (TX0 0).1 (TX0 0).2.1 (TX0 0).2.2.1 ∈ wsX0_takeForeseenSteps := by decide +kernel
theorem lkX0_takeForeseenSteps_f18 : Cond.fieldLink RX0 18 (TX0 1).1 (TX0 1).2.1 (TX0 1).2.2.1 ∈ wsX0_takeForeseenSteps := by decide +kernel
theorem lkX0_takeForeseenSteps_f91 : Cond.fieldLink RX0 91 (TX2 0).1 (TX2 0).2.1 (TX2 0).2.2.1 ∈ wsX0_takeForeseenSteps := by decide +kernel
theorem lkX0_takeForeseenSteps_f66 : Cond.fieldLink RX0 66 (TX0 2).1 (TX0 2).2.1 (TX0 2).2.2.1 ∈ wsX0_takeForeseenSteps := by decide +kernel
theorem lkX0_takeForeseenSteps_f70 : Cond.fieldLink RX0 70 (TX0 3).1 (TX0 3).2.1 (TX0 3).2.2.1 ∈ wsX0_takeForeseenSteps := by decide +kernel
theorem lkX0_takeForeseenSteps_f73 : Cond.fieldLink RX0 73 (TX0 4).1 (TX0 4).2.1 (TX0 4).2.2.1 ∈ wsX0_takeForeseenSteps := by decide +kernel
theorem lkX0_takeForeseenSteps_f76 : Cond.fieldLink RX0 76 (TX0 5).1 (TX0 5).2.1 (TX0 5).2.2.1 ∈ wsX0_takeForeseenSteps := by decide +kernel
theorem lkX0_takeForeseenSteps_c95 : Cond.constant RX0 95 (1073741823) ∈ wsX0_takeForeseenSteps := by decide +kernel
theorem lkX0_takeForeseenSteps_f83 : Cond.fieldLink RX0 83 (TX2 1).1 (TX2 1).2.1 (TX2 1).2.2.1 ∈ wsX0_takeForeseenSteps := by decide +kernel
theorem ndX0_takeForeseenSteps : yX0_takeForeseenSteps.cls ≠ "java/lang/invoke/MethodHandle" ∧ yX0_takeForeseenSteps.cls ≠ "java/lang/invoke/VarHandle" ∧ (parseMethodDescriptor yX0_takeForeseenSteps.desc).map (fun d => d.parameters.length) = some 0 := by decide +kernel
set_option maxRecDepth 100000 in
set_option maxHeartbeats 4000000 in
theorem wX0_takeForeseenSteps_24 {p : Program} {l : Launch} {e : Env} {s : State} {m : MethodId} {args : Array Value} {below : List Frame} {meth : Method} {c : Code} {G : hp_G} {h0 h' : hp_H}  (X : hp_X p s m args meth c cX0_takeForeseenSteps 11 RX0 wsX0_takeForeseenSteps none G)  {x0 : Nat} {x1 : Int32}   : ∀ (n : Nat) {x2 : Int64} {x4 : Int64} {x6 : Int32} {h : hp_H} {H : Heap} {locs : List Loc} {ls : Array Slot} (Y : hp_Y G h h0 s H locs) (hl : lv_has ls 11 [(0, .ref x0), (1, .int x1), (2, .long x2), (4, .long x4), (6, .int x6)]) (hF : bX0_takeForeseenSteps_24 x0 x1 n x2 x4 x6 h = some h'), W p l e rmX0_takeForeseenSteps s m args below meth c H locs 0 0 (MQ below (va_Qv (fun u => u = h') (hp_B G h0) (hp_A h0)) args s 0 0 (hp_A h0)) (F0 m 24 ls []) := by
  intro n
  induction n with
  | zero =>
    intro x2 x4 x6 h H locs ls Y hl hF
    exact absurd (show none = some _ from hF) (by simp)
  | succ n ih =>
    intro x2 x4 x6 h H locs ls Y hl hF
    rw [bX0_takeForeseenSteps_24] at hF
    refine lv_iload X.1 X.2.1 dX0_takeForeseenSteps_24 (lv_at hl 4 rfl) ?_
    refine lv_iload_n X.1 X.2.1 dX0_takeForeseenSteps_26 rfl (lv_at hl 1 rfl) ?_
    refine lv_icmp_ge (tgt := 143) X.1 X.2.1 dX0_takeForeseenSteps_27 (by decide) (fun c1 => ?_) (fun c1 => ?_)
    · have hF := hp_ifp (c1) hF
      refine lv_aload_n X.1 X.2.1 dX0_takeForeseenSteps_143 rfl (lv_at hl 0 rfl) ?_
      obtain ⟨v2, e3, hF⟩ := hp_b hF
      refine hp_getr X Y (C := RX0) (T := TX0) (N := 6) (ci := 0) (k := 0) rfl inX0_takeForeseenSteps_X0 (by decide) lkX0_takeForeseenSteps_f14 e3 dX0_takeForeseenSteps_144 ?_
      refine lv_iload_n X.1 X.2.1 dX0_takeForeseenSteps_147 rfl (lv_at hl 1 rfl) ?_
      obtain ⟨h5, e4, hF⟩ := hp_b hF
      refine hp_cv Y (hp_runV X Y (ci := 2) (As := [.int x1]) (n := 1) (T := TX2) (N := 2) (mX2_trim l G e4) rfl (oX2_trim e4) gX0_takeForeseenSteps_X2_trim rfl rfl rfl ndX2_trim ⟨Nat.le_of_ble_eq_true rfl, Nat.le_of_ble_eq_true rfl⟩ rfl hl.1 rfl (Nat.le_of_ble_eq_true rfl) dX0_takeForeseenSteps_148 ⟨Nat.zero_le _, Nat.zero_le _⟩) (fun H locs Y => ?_)
      refine lv_aload_n X.1 X.2.1 dX0_takeForeseenSteps_151 rfl (lv_at hl 0 rfl) ?_
      obtain ⟨v6, e7, hF⟩ := hp_b hF
      refine hp_getr X Y (C := RX0) (T := TX0) (N := 6) (ci := 0) (k := 1) rfl inX0_takeForeseenSteps_X0 (by decide) lkX0_takeForeseenSteps_f18 e7 dX0_takeForeseenSteps_152 ?_
      refine lv_iload_n X.1 X.2.1 dX0_takeForeseenSteps_155 rfl (lv_at hl 1 rfl) ?_
      obtain ⟨h9, e8, hF⟩ := hp_b hF
      refine hp_cv Y (hp_runV X Y (ci := 2) (As := [.int x1]) (n := 1) (T := TX2) (N := 2) (mX2_trim l G e8) rfl (oX2_trim e8) gX0_takeForeseenSteps_X2_trim rfl rfl rfl ndX2_trim ⟨Nat.le_of_ble_eq_true rfl, Nat.le_of_ble_eq_true rfl⟩ rfl hl.1 rfl (Nat.le_of_ble_eq_true rfl) dX0_takeForeseenSteps_156 ⟨Nat.zero_le _, Nat.zero_le _⟩) (fun H locs Y => ?_)
      cases hF
      exact hp_rv X Y rfl dX0_takeForeseenSteps_159
    · have hF := hp_ifn (c1) hF
      refine lv_aload_n X.1 X.2.1 dX0_takeForeseenSteps_30 rfl (lv_at hl 0 rfl) ?_
      obtain ⟨v10, e11, hF⟩ := hp_b hF
      refine hp_getr X Y (C := RX0) (T := TX0) (N := 6) (ci := 0) (k := 0) rfl inX0_takeForeseenSteps_X0 (by decide) lkX0_takeForeseenSteps_f14 e11 dX0_takeForeseenSteps_31 ?_
      obtain ⟨v12, e13, hF⟩ := hp_b hF
      refine hp_getr X Y (C := RX2) (T := TX2) (N := 2) (ci := 2) (k := 0) rfl inX0_takeForeseenSteps_X2 (by decide) lkX0_takeForeseenSteps_f91 e13 dX0_takeForeseenSteps_34 ?_
      refine lv_iload X.1 X.2.1 dX0_takeForeseenSteps_37 (lv_at hl 4 rfl) ?_
      obtain ⟨v14, e15, hF⟩ := hp_b hF
      refine hp_iald X Y e15 dX0_takeForeseenSteps_39 ?_
      refine lv_i2l (v := Int32.toInt64 v14) X.1 X.2.1 dX0_takeForeseenSteps_40 rfl ?_
      obtain ⟨v16, e17, hF⟩ := hp_b hF
      refine hp_tj (Option.some.inj e17) ?_
      refine lv_lstore (lv' := [(7, .long v16), (0, .ref x0), (1, .int x1), (2, .long x2), (4, .long x4), (6, .int x6)]) X.1 X.2.1 dX0_takeForeseenSteps_41 hl (by decide) rfl (fun ls hl => ?_)
      refine lv_aload_n X.1 X.2.1 dX0_takeForeseenSteps_43 rfl (lv_at hl 1 rfl) ?_
      obtain ⟨v18, e19, hF⟩ := hp_b hF
      refine hp_getr X Y (C := RX0) (T := TX0) (N := 6) (ci := 0) (k := 1) rfl inX0_takeForeseenSteps_X0 (by decide) lkX0_takeForeseenSteps_f18 e19 dX0_takeForeseenSteps_44 ?_
      obtain ⟨v20, e21, hF⟩ := hp_b hF
      refine hp_getr X Y (C := RX2) (T := TX2) (N := 2) (ci := 2) (k := 0) rfl inX0_takeForeseenSteps_X2 (by decide) lkX0_takeForeseenSteps_f91 e21 dX0_takeForeseenSteps_47 ?_
      refine lv_iload X.1 X.2.1 dX0_takeForeseenSteps_50 (lv_at hl 5 rfl) ?_
      obtain ⟨v22, e23, hF⟩ := hp_b hF
      refine hp_iald X Y e23 dX0_takeForeseenSteps_52 ?_
      refine lv_i2l (v := Int32.toInt64 v22) X.1 X.2.1 dX0_takeForeseenSteps_53 rfl ?_
      obtain ⟨v24, e25, hF⟩ := hp_b hF
      refine hp_tj (Option.some.inj e25) ?_
      refine lv_lstore (lv' := [(9, .long v24), (7, .long v16), (0, .ref x0), (1, .int x1), (2, .long x2), (4, .long x4), (6, .int x6)]) X.1 X.2.1 dX0_takeForeseenSteps_54 hl (by decide) rfl (fun ls hl => ?_)
      refine lv_lload_n X.1 X.2.1 dX0_takeForeseenSteps_56 rfl (lv_at hl 4 rfl) ?_
      refine lv_aload_n X.1 X.2.1 dX0_takeForeseenSteps_57 rfl (lv_at hl 2 rfl) ?_
      obtain ⟨v26, e27, hF⟩ := hp_b hF
      refine hp_getj X Y (C := RX0) (T := TX0) (N := 6) (ci := 0) (k := 2) rfl inX0_takeForeseenSteps_X0 (by decide) lkX0_takeForeseenSteps_f66 e27 dX0_takeForeseenSteps_58 ?_
      refine lv_lload X.1 X.2.1 dX0_takeForeseenSteps_61 (lv_at hl 1 rfl) ?_
      refine lv_lmul X.1 X.2.1 dX0_takeForeseenSteps_63 ?_
      refine lv_aload_n X.1 X.2.1 dX0_takeForeseenSteps_64 rfl (lv_at hl 2 rfl) ?_
      obtain ⟨v28, e29, hF⟩ := hp_b hF
      refine hp_getj X Y (C := RX0) (T := TX0) (N := 6) (ci := 0) (k := 3) rfl inX0_takeForeseenSteps_X0 (by decide) lkX0_takeForeseenSteps_f70 e29 dX0_takeForeseenSteps_65 ?_
      refine lv_lload X.1 X.2.1 dX0_takeForeseenSteps_68 (lv_at hl 0 rfl) ?_
      refine lv_lmul X.1 X.2.1 dX0_takeForeseenSteps_70 ?_
      refine lv_ladd X.1 X.2.1 dX0_takeForeseenSteps_71 ?_
      refine lv_ladd X.1 X.2.1 dX0_takeForeseenSteps_72 ?_
      obtain ⟨v30, e31, hF⟩ := hp_b hF
      refine hp_tj (Option.some.inj e31) ?_
      refine lv_lstore_n (lv' := [(2, .long v30), (9, .long v24), (7, .long v16), (0, .ref x0), (1, .int x1), (4, .long x4), (6, .int x6)]) X.1 X.2.1 dX0_takeForeseenSteps_73 rfl hl (by decide) rfl (fun ls hl => ?_)
      refine lv_lload X.1 X.2.1 dX0_takeForeseenSteps_74 (lv_at hl 5 rfl) ?_
      refine lv_aload_n X.1 X.2.1 dX0_takeForeseenSteps_76 rfl (lv_at hl 3 rfl) ?_
      obtain ⟨v32, e33, hF⟩ := hp_b hF
      refine hp_getj X Y (C := RX0) (T := TX0) (N := 6) (ci := 0) (k := 4) rfl inX0_takeForeseenSteps_X0 (by decide) lkX0_takeForeseenSteps_f73 e33 dX0_takeForeseenSteps_77 ?_
      refine lv_lload X.1 X.2.1 dX0_takeForeseenSteps_80 (lv_at hl 2 rfl) ?_
      refine lv_lmul X.1 X.2.1 dX0_takeForeseenSteps_82 ?_
      refine lv_aload_n X.1 X.2.1 dX0_takeForeseenSteps_83 rfl (lv_at hl 3 rfl) ?_
      obtain ⟨v34, e35, hF⟩ := hp_b hF
      refine hp_getj X Y (C := RX0) (T := TX0) (N := 6) (ci := 0) (k := 5) rfl inX0_takeForeseenSteps_X0 (by decide) lkX0_takeForeseenSteps_f76 e35 dX0_takeForeseenSteps_84 ?_
      refine lv_lload X.1 X.2.1 dX0_takeForeseenSteps_87 (lv_at hl 1 rfl) ?_
      refine lv_lmul X.1 X.2.1 dX0_takeForeseenSteps_89 ?_
      refine lv_ladd X.1 X.2.1 dX0_takeForeseenSteps_90 ?_
      refine lv_ladd X.1 X.2.1 dX0_takeForeseenSteps_91 ?_
      obtain ⟨v36, e37, hF⟩ := hp_b hF
      refine hp_tj (Option.some.inj e37) ?_
      refine lv_lstore (lv' := [(4, .long v36), (2, .long v30), (9, .long v24), (7, .long v16), (0, .ref x0), (1, .int x1), (6, .int x6)]) X.1 X.2.1 dX0_takeForeseenSteps_92 hl (by decide) rfl (fun ls hl => ?_)
      refine lv_aload_n X.1 X.2.1 dX0_takeForeseenSteps_94 rfl (lv_at hl 4 rfl) ?_
      obtain ⟨v38, e39, hF⟩ := hp_b hF
      refine hp_getr X Y (C := RX0) (T := TX0) (N := 6) (ci := 0) (k := 0) rfl inX0_takeForeseenSteps_X0 (by decide) lkX0_takeForeseenSteps_f14 e39 dX0_takeForeseenSteps_95 ?_
      obtain ⟨v40, e41, hF⟩ := hp_b hF
      refine hp_getr X Y (C := RX2) (T := TX2) (N := 2) (ci := 2) (k := 0) rfl inX0_takeForeseenSteps_X2 (by decide) lkX0_takeForeseenSteps_f91 e41 dX0_takeForeseenSteps_98 ?_
      refine lv_iload X.1 X.2.1 dX0_takeForeseenSteps_101 (lv_at hl 6 rfl) ?_
      refine lv_lload_n X.1 X.2.1 dX0_takeForeseenSteps_103 rfl (lv_at hl 1 rfl) ?_
      refine lv_l2i (v := Int64.toInt32 v30) X.1 X.2.1 dX0_takeForeseenSteps_104 rfl ?_
      refine lv_ldc (v := 1073741823) X.1 X.2.1 X.2.2.2.1 (X.2.2.2.2.1 _ lkX0_takeForeseenSteps_c95) dX0_takeForeseenSteps_105 ?_
      refine lv_iand X.1 X.2.1 dX0_takeForeseenSteps_107 ?_
      obtain ⟨h42, e43, hF⟩ := hp_b hF
      refine hp_iast X Y e43 dX0_takeForeseenSteps_108 (fun H locs Y => ?_)
      refine lv_aload_n X.1 X.2.1 dX0_takeForeseenSteps_109 rfl (lv_at hl 4 rfl) ?_
      obtain ⟨v44, e45, hF⟩ := hp_b hF
      refine hp_getr X Y (C := RX0) (T := TX0) (N := 6) (ci := 0) (k := 1) rfl inX0_takeForeseenSteps_X0 (by decide) lkX0_takeForeseenSteps_f18 e45 dX0_takeForeseenSteps_110 ?_
      obtain ⟨v46, e47, hF⟩ := hp_b hF
      refine hp_getr X Y (C := RX2) (T := TX2) (N := 2) (ci := 2) (k := 0) rfl inX0_takeForeseenSteps_X2 (by decide) lkX0_takeForeseenSteps_f91 e47 dX0_takeForeseenSteps_113 ?_
      refine lv_iload X.1 X.2.1 dX0_takeForeseenSteps_116 (lv_at hl 6 rfl) ?_
      refine lv_lload X.1 X.2.1 dX0_takeForeseenSteps_118 (lv_at hl 0 rfl) ?_
      refine lv_l2i (v := Int64.toInt32 v36) X.1 X.2.1 dX0_takeForeseenSteps_120 rfl ?_
      refine lv_ldc (v := 1073741823) X.1 X.2.1 X.2.2.2.1 (X.2.2.2.2.1 _ lkX0_takeForeseenSteps_c95) dX0_takeForeseenSteps_121 ?_
      refine lv_iand X.1 X.2.1 dX0_takeForeseenSteps_123 ?_
      obtain ⟨h48, e49, hF⟩ := hp_b hF
      refine hp_iast X Y e49 dX0_takeForeseenSteps_124 (fun H locs Y => ?_)
      refine lv_lload_n X.1 X.2.1 dX0_takeForeseenSteps_125 rfl (lv_at hl 1 rfl) ?_
      refine lv_bipush (v := 30) X.1 X.2.1 dX0_takeForeseenSteps_126 (by decide) ?_
      refine lv_lshr (v := hp_lshr v30 (30 : Int32)) X.1 X.2.1 dX0_takeForeseenSteps_128 rfl ?_
      obtain ⟨v50, e51, hF⟩ := hp_b hF
      refine hp_tj (Option.some.inj e51) ?_
      refine lv_lstore_n (lv' := [(2, .long v50), (4, .long v36), (9, .long v24), (7, .long v16), (0, .ref x0), (1, .int x1), (6, .int x6)]) X.1 X.2.1 dX0_takeForeseenSteps_129 rfl hl (by decide) rfl (fun ls hl => ?_)
      refine lv_lload X.1 X.2.1 dX0_takeForeseenSteps_130 (lv_at hl 1 rfl) ?_
      refine lv_bipush (v := 30) X.1 X.2.1 dX0_takeForeseenSteps_132 (by decide) ?_
      refine lv_lshr (v := hp_lshr v36 (30 : Int32)) X.1 X.2.1 dX0_takeForeseenSteps_134 rfl ?_
      obtain ⟨v52, e53, hF⟩ := hp_b hF
      refine hp_tj (Option.some.inj e53) ?_
      refine lv_lstore (lv' := [(4, .long v52), (2, .long v50), (9, .long v24), (7, .long v16), (0, .ref x0), (1, .int x1), (6, .int x6)]) X.1 X.2.1 dX0_takeForeseenSteps_135 hl (by decide) rfl (fun ls hl => ?_)
      obtain ⟨v54, e55, hF⟩ := hp_b hF
      refine lv_iinc (v := v54) (lv' := [(6, .int v54), (4, .long v52), (2, .long v50), (9, .long v24), (7, .long v16), (0, .ref x0), (1, .int x1)]) X.1 X.2.1 dX0_takeForeseenSteps_137 hl (k := 6) rfl (Option.some.inj e55) (by decide) rfl (fun ls hl => ?_)
      refine lv_goto (tgt := 24) X.1 X.2.1 dX0_takeForeseenSteps_140 (by decide) ?_
      exact ih Y (lv_sub hl [5, 6, 2, 1, 0] rfl) hF
theorem oX0_takeForeseenSteps {x0 : Nat} {h h' : hp_H}  (hF : fX0_takeForeseenSteps x0 h = some h') : hp_o h x0 0 = true := by
  unfold fX0_takeForeseenSteps at hF
  exact (hp_ift hF).1
set_option maxRecDepth 100000 in
set_option maxHeartbeats 4000000 in
theorem mX0_takeForeseenSteps (l : Launch) (G : hp_G) {x0 : Nat} {h h' : hp_H}  (hF : fX0_takeForeseenSteps x0 h = some h') : Met l yX0_takeForeseenSteps wsX0_takeForeseenSteps rmX0_takeForeseenSteps (va_Pc [.ref x0] (hp_S G h)) (va_Qv (fun u => u = h') (hp_B G h) (hp_A h)) 0 0 (hp_A h) := by
  refine hp_met (cc := cX0_takeForeseenSteps) (nL := 11) (ret := none) (by decide) rfl ?_
  intro p e s m below meth c X Y
  have hl := lv_entry ([.ref x0]) (n := 11) (Nat.le_of_ble_eq_true rfl)
  rw [lg_entry_eq]
  generalize (lg_sl ([.ref x0]) ++ List.replicate (11 - (lg_sl ([.ref x0])).length) Slot.unset).toArray = ls at hl ⊢
  have hl : lv_has ls 11 [(0, .ref x0)] := hl
  unfold fX0_takeForeseenSteps at hF
  obtain ⟨ho, hF⟩ := hp_ift hF
  refine lv_aload_n X.1 X.2.1 dX0_takeForeseenSteps_0 rfl (lv_at hl 0 rfl) ?_
  obtain ⟨v1, e2, hF⟩ := hp_b hF
  refine hp_getr X Y (C := RX0) (T := TX0) (N := 6) (ci := 0) (k := 0) rfl inX0_takeForeseenSteps_X0 (by decide) lkX0_takeForeseenSteps_f14 e2 dX0_takeForeseenSteps_1 ?_
  obtain ⟨v3, e4, hF⟩ := hp_b hF
  refine hp_geti X Y (C := RX2) (T := TX2) (N := 2) (ci := 2) (k := 1) rfl inX0_takeForeseenSteps_X2 (by decide) lkX0_takeForeseenSteps_f83 e4 dX0_takeForeseenSteps_4 ?_
  refine lv_istore_n (lv' := [(1, .int v3), (0, .ref x0)]) X.1 X.2.1 dX0_takeForeseenSteps_7 rfl hl (by decide) rfl (fun ls hl => ?_)
  refine lv_aload_n X.1 X.2.1 dX0_takeForeseenSteps_8 rfl (lv_at hl 1 rfl) ?_
  obtain ⟨v5, e6, hF⟩ := hp_b hF
  refine hp_getr X Y (C := RX0) (T := TX0) (N := 6) (ci := 0) (k := 1) rfl inX0_takeForeseenSteps_X0 (by decide) lkX0_takeForeseenSteps_f18 e6 dX0_takeForeseenSteps_9 ?_
  refine lv_iload_n X.1 X.2.1 dX0_takeForeseenSteps_12 rfl (lv_at hl 0 rfl) ?_
  obtain ⟨h8, e7, hF⟩ := hp_b hF
  refine hp_cv Y (hp_runV X Y (ci := 2) (As := [.int v3]) (n := 1) (T := TX2) (N := 2) (mX2_padTo l G e7) rfl (oX2_padTo e7) gX0_takeForeseenSteps_X2_padTo rfl rfl rfl ndX2_padTo ⟨Nat.le_of_ble_eq_true rfl, Nat.le_of_ble_eq_true rfl⟩ rfl hl.1 rfl (Nat.le_of_ble_eq_true rfl) dX0_takeForeseenSteps_13 ⟨Nat.zero_le _, Nat.zero_le _⟩) (fun H locs Y => ?_)
  refine lv_lconst (v := 0) X.1 X.2.1 dX0_takeForeseenSteps_16 (by decide) ?_
  refine lv_lstore_n (lv' := [(2, .long (0 : Int64)), (1, .int v3), (0, .ref x0)]) X.1 X.2.1 dX0_takeForeseenSteps_17 rfl hl (by decide) rfl (fun ls hl => ?_)
  refine lv_lconst (v := 0) X.1 X.2.1 dX0_takeForeseenSteps_18 (by decide) ?_
  refine lv_lstore (lv' := [(4, .long (0 : Int64)), (2, .long (0 : Int64)), (1, .int v3), (0, .ref x0)]) X.1 X.2.1 dX0_takeForeseenSteps_19 hl (by decide) rfl (fun ls hl => ?_)
  refine lv_iconst (v := 0) X.1 X.2.1 dX0_takeForeseenSteps_21 (by decide) ?_
  refine lv_istore (lv' := [(6, .int (0 : Int32)), (4, .long (0 : Int64)), (2, .long (0 : Int64)), (1, .int v3), (0, .ref x0)]) X.1 X.2.1 dX0_takeForeseenSteps_22 hl (by decide) rfl (fun ls hl => ?_)
  exact wX0_takeForeseenSteps_24 X  hp_n Y (lv_sub hl [4, 3, 2, 1, 0] rfl) hF

/-! WholeNumbers$Euclid.takeStep -/
def rmX0_takeStep : Room := { frames := 4, cells := 0, slots := 0, locals := 104 }
def fX0_takeStep (x0 : Nat) (x1 : Nat) (h : hp_H) : Option hp_H :=
  if hp_o h x0 0 = true then
  (hp_gr h x0 0 0).bind fun v1 =>
  (hp_gr h x0 0 1).bind fun v3 =>
  (fX1_split x1 v1 v3 h).bind fun h6 =>
  (hp_gr h6 x0 0 0).bind fun v7 =>
  (hp_gr h6 x0 0 1).bind fun v9 =>
  (hp_pv h6 x0 0 0 (.ref v9)).bind fun h11 =>
  (hp_pv h11 x0 0 1 (.ref v7)).bind fun h13 =>
  (hp_gr h13 x0 0 1).bind fun v15 =>
  (hp_gr h13 x1 1 1).bind fun v17 =>
  (fX2_take v15 v17 h13).bind fun h20 =>
  some h20
  else none
theorem inX0_takeStep_X0 : ∀ w ∈ wsX00, w ∈ wsX0_takeStep := by decide +kernel
theorem inX0_takeStep_X1 : ∀ w ∈ wsX10, w ∈ wsX0_takeStep := by decide +kernel
theorem lkX0_takeStep_f14 : Cond.fieldLink RX0 14 (TX0 0).1 (TX0 0).2.1 (TX0 0).2.2.1 ∈ wsX0_takeStep := by decide +kernel
theorem lkX0_takeStep_f18 : Cond.fieldLink RX0 18 (TX0 1).1 (TX0 1).2.1 (TX0 1).2.2.1 ∈ wsX0_takeStep := by decide +kernel
theorem lkX0_takeStep_f49 : Cond.fieldLink RX0 49 (TX1 1).1 (TX1 1).2.1 (TX1 1).2.2.1 ∈ wsX0_takeStep := by decide +kernel
theorem ndX0_takeStep : yX0_takeStep.cls ≠ "java/lang/invoke/MethodHandle" ∧ yX0_takeStep.cls ≠ "java/lang/invoke/VarHandle" ∧ (parseMethodDescriptor yX0_takeStep.desc).map (fun d => d.parameters.length) = some 1 := by decide +kernel
theorem oX0_takeStep {x0 : Nat} {x1 : Nat} {h h' : hp_H}  (hF : fX0_takeStep x0 x1 h = some h') : hp_o h x0 0 = true := by
  unfold fX0_takeStep at hF
  exact (hp_ift hF).1
set_option maxRecDepth 100000 in
set_option maxHeartbeats 4000000 in
theorem mX0_takeStep (l : Launch) (G : hp_G) {x0 : Nat} {x1 : Nat} {h h' : hp_H}  (hF : fX0_takeStep x0 x1 h = some h') : Met l yX0_takeStep wsX0_takeStep rmX0_takeStep (va_Pc [.ref x0, .ref x1] (hp_S G h)) (va_Qv (fun u => u = h') (hp_B G h) (hp_A h)) 0 0 (hp_A h) := by
  refine hp_met (cc := cX0_takeStep) (nL := 3) (ret := none) (by decide) rfl ?_
  intro p e s m below meth c X Y
  have hl := lv_entry ([.ref x0, .ref x1]) (n := 3) (Nat.le_of_ble_eq_true rfl)
  rw [lg_entry_eq]
  generalize (lg_sl ([.ref x0, .ref x1]) ++ List.replicate (3 - (lg_sl ([.ref x0, .ref x1])).length) Slot.unset).toArray = ls at hl ⊢
  have hl : lv_has ls 3 [(0, .ref x0), (1, .ref x1)] := hl
  unfold fX0_takeStep at hF
  obtain ⟨ho, hF⟩ := hp_ift hF
  refine lv_aload_n X.1 X.2.1 dX0_takeStep_0 rfl (lv_at hl 1 rfl) ?_
  refine lv_aload_n X.1 X.2.1 dX0_takeStep_1 rfl (lv_at hl 0 rfl) ?_
  obtain ⟨v1, e2, hF⟩ := hp_b hF
  refine hp_getr X Y (C := RX0) (T := TX0) (N := 6) (ci := 0) (k := 0) rfl inX0_takeStep_X0 (by decide) lkX0_takeStep_f14 e2 dX0_takeStep_2 ?_
  refine lv_aload_n X.1 X.2.1 dX0_takeStep_5 rfl (lv_at hl 0 rfl) ?_
  obtain ⟨v3, e4, hF⟩ := hp_b hF
  refine hp_getr X Y (C := RX0) (T := TX0) (N := 6) (ci := 0) (k := 1) rfl inX0_takeStep_X0 (by decide) lkX0_takeStep_f18 e4 dX0_takeStep_6 ?_
  obtain ⟨h6, e5, hF⟩ := hp_b hF
  refine hp_cv Y (hp_runV X Y (ci := 1) (As := [.ref v1, .ref v3]) (n := 2) (T := TX1) (N := 3) (mX1_split l G e5) rfl (oX1_split e5) gX0_takeStep_X1_split rfl rfl rfl ndX1_split ⟨Nat.le_of_ble_eq_true rfl, Nat.le_of_ble_eq_true rfl⟩ rfl hl.1 rfl (Nat.le_of_ble_eq_true rfl) dX0_takeStep_9 ⟨Nat.zero_le _, Nat.zero_le _⟩) (fun H locs Y => ?_)
  refine lv_aload_n X.1 X.2.1 dX0_takeStep_12 rfl (lv_at hl 0 rfl) ?_
  obtain ⟨v7, e8, hF⟩ := hp_b hF
  refine hp_getr X Y (C := RX0) (T := TX0) (N := 6) (ci := 0) (k := 0) rfl inX0_takeStep_X0 (by decide) lkX0_takeStep_f14 e8 dX0_takeStep_13 ?_
  refine lv_astore_n (lv' := [(2, .ref v7), (0, .ref x0), (1, .ref x1)]) X.1 X.2.1 dX0_takeStep_16 rfl hl (by decide) rfl (fun ls hl => ?_)
  refine lv_aload_n X.1 X.2.1 dX0_takeStep_17 rfl (lv_at hl 1 rfl) ?_
  refine lv_aload_n X.1 X.2.1 dX0_takeStep_18 rfl (lv_at hl 1 rfl) ?_
  obtain ⟨v9, e10, hF⟩ := hp_b hF
  refine hp_getr X Y (C := RX0) (T := TX0) (N := 6) (ci := 0) (k := 1) rfl inX0_takeStep_X0 (by decide) lkX0_takeStep_f18 e10 dX0_takeStep_19 ?_
  obtain ⟨h11, e12, hF⟩ := hp_b hF
  refine hp_put X Y (C := RX0) (T := TX0) (N := 6) (ci := 0) (k := 0) (ty0 := tyX0) rfl inX0_takeStep_X0 tyX0_ok nmX0 (by decide) lkX0_takeStep_f14 rfl rfl rfl e12 dX0_takeStep_22 (fun H locs Y => ?_)
  refine lv_aload_n X.1 X.2.1 dX0_takeStep_25 rfl (lv_at hl 1 rfl) ?_
  refine lv_aload_n X.1 X.2.1 dX0_takeStep_26 rfl (lv_at hl 0 rfl) ?_
  obtain ⟨h13, e14, hF⟩ := hp_b hF
  refine hp_put X Y (C := RX0) (T := TX0) (N := 6) (ci := 0) (k := 1) (ty0 := tyX0) rfl inX0_takeStep_X0 tyX0_ok nmX0 (by decide) lkX0_takeStep_f18 rfl rfl rfl e14 dX0_takeStep_27 (fun H locs Y => ?_)
  refine lv_aload_n X.1 X.2.1 dX0_takeStep_30 rfl (lv_at hl 1 rfl) ?_
  obtain ⟨v15, e16, hF⟩ := hp_b hF
  refine hp_getr X Y (C := RX0) (T := TX0) (N := 6) (ci := 0) (k := 1) rfl inX0_takeStep_X0 (by decide) lkX0_takeStep_f18 e16 dX0_takeStep_31 ?_
  refine lv_aload_n X.1 X.2.1 dX0_takeStep_34 rfl (lv_at hl 2 rfl) ?_
  obtain ⟨v17, e18, hF⟩ := hp_b hF
  refine hp_getr X Y (C := RX1) (T := TX1) (N := 3) (ci := 1) (k := 1) rfl inX0_takeStep_X1 (by decide) lkX0_takeStep_f49 e18 dX0_takeStep_35 ?_
  obtain ⟨h20, e19, hF⟩ := hp_b hF
  refine hp_cv Y (hp_runV X Y (ci := 2) (As := [.ref v17]) (n := 1) (T := TX2) (N := 2) (mX2_take l G e19) rfl (oX2_take e19) gX0_takeStep_X2_take rfl rfl rfl ndX2_take ⟨Nat.le_of_ble_eq_true rfl, Nat.le_of_ble_eq_true rfl⟩ rfl hl.1 rfl (Nat.le_of_ble_eq_true rfl) dX0_takeStep_38 ⟨Nat.zero_le _, Nat.zero_le _⟩) (fun H locs Y => ?_)
  cases hF
  exact hp_rv X Y rfl dX0_takeStep_41

/-! WholeNumbers$Euclid.commonDivisor -/
def rmX0_commonDivisor : Room := { frames := 5, cells := 0, slots := 0, locals := 126 }
def bX0_commonDivisor_95  (x0 : Nat)  (h : hp_H) : Option (Nat × hp_H) :=
  (hp_gr h x0 0 0).bind fun v1 =>
  some (v1, h)
def bX0_commonDivisor_89 (k52 : Int32 → hp_H → Option (Nat × hp_H)) (x0 : Nat) (x3 : Nat) (x5 : Int32)  (h : hp_H) : Option (Nat × hp_H) :=
  (some (x5 + (1 : Int32))).bind fun v1 =>
  k52 v1 h
def bX0_commonDivisor_52  (x0 : Nat) (x3 : Nat) : Nat → Int32 → hp_H → Option (Nat × hp_H)
  | 0, _, _ => none
  | n + 1, x5, h =>
  if (8194 : Int32) ≤ x5 then (
    bX0_commonDivisor_95 x0 h)
  else (
    (hp_gr h x0 0 1).bind fun v2 =>
    (fX2_isZero v2 h).bind fun v5 =>
    if v5 = 0 then (
      (fX0_foreseeSteps x0 h).bind fun (v9, h8) =>
      if v9 = 0 then (
        (fX0_takeStep x0 x3 h8).bind fun h13 =>
        bX0_commonDivisor_89 (bX0_commonDivisor_52 x0 x3 n) x0 x3 x5 h13)
      else (
        (fX0_takeForeseenSteps x0 h8).bind fun h15 =>
        bX0_commonDivisor_89 (bX0_commonDivisor_52 x0 x3 n) x0 x3 x5 h15))
    else (
      bX0_commonDivisor_95 x0 h))
def bX0_commonDivisor_46  (x0 : Nat) (x3 : Nat) (t0 : Nat) (t1 : Nat) (h : hp_H) : Option (Nat × hp_H) :=
  (fX2_take t0 t1 h).bind fun h2 =>
  bX0_commonDivisor_52 x0 x3 hp_n (0 : Int32) h2
def bX0_commonDivisor_29  (x0 : Nat) (x1 : Nat) (x2 : Nat) (x3 : Nat) (x4 : Int32) (t0 : Nat) (t1 : Nat) (h : hp_H) : Option (Nat × hp_H) :=
  (fX2_take t0 t1 h).bind fun h2 =>
  (hp_gr h2 x0 0 1).bind fun v3 =>
  if x4 = 0 then (
    bX0_commonDivisor_46 x0 x3 v3 x1 h2)
  else (
    bX0_commonDivisor_46 x0 x3 v3 x2 h2)
def bX0_commonDivisor_13  (x0 : Nat) (x1 : Nat) (x2 : Nat) (x3 : Nat) (t0 : Int32) (h : hp_H) : Option (Nat × hp_H) :=
  (hp_gr h x0 0 0).bind fun v1 =>
  if t0 = 0 then (
    bX0_commonDivisor_29 x0 x1 x2 x3 t0 v1 x2 h)
  else (
    bX0_commonDivisor_29 x0 x1 x2 x3 t0 v1 x1 h)
def fX0_commonDivisor (x0 : Nat) (x1 : Nat) (x2 : Nat) (x3 : Nat) (h : hp_H) : Option (Nat × hp_H) :=
  if hp_o h x0 0 = true then
  (fX2_order x1 x2 h).bind fun v2 =>
  if v2 < 0 then (
    bX0_commonDivisor_13 x0 x1 x2 x3 (0 : Int32) h)
  else (
    bX0_commonDivisor_13 x0 x1 x2 x3 (1 : Int32) h)
  else none
theorem inX0_commonDivisor_X0 : ∀ w ∈ wsX00, w ∈ wsX0_commonDivisor := by decide +kernel
theorem lkX0_commonDivisor_f14 : Cond.fieldLink RX0 14 (TX0 0).1 (TX0 0).2.1 (TX0 0).2.2.1 ∈ wsX0_commonDivisor := by decide +kernel
theorem lkX0_commonDivisor_f18 : Cond.fieldLink RX0 18 (TX0 1).1 (TX0 1).2.1 (TX0 1).2.2.1 ∈ wsX0_commonDivisor := by decide +kernel
theorem ndX0_commonDivisor : yX0_commonDivisor.cls ≠ "java/lang/invoke/MethodHandle" ∧ yX0_commonDivisor.cls ≠ "java/lang/invoke/VarHandle" ∧ (parseMethodDescriptor yX0_commonDivisor.desc).map (fun d => d.parameters.length) = some 3 := by decide +kernel
set_option maxRecDepth 100000 in
set_option maxHeartbeats 4000000 in
theorem wX0_commonDivisor_95 {p : Program} {l : Launch} {e : Env} {s : State} {m : MethodId} {args : Array Value} {below : List Frame} {meth : Method} {c : Code} {G : hp_G} {h0 h' : hp_H} {r : Nat} (X : hp_X p s m args meth c cX0_commonDivisor 6 RX0 wsX0_commonDivisor (some (.object "WholeNumbers$Natural")) G)  {x0 : Nat}   {h : hp_H} {H : Heap} {locs : List Loc} {ls : Array Slot} (Y : hp_Y G h h0 s H locs) (hl : lv_has ls 6 [(0, .ref x0)]) (hF : bX0_commonDivisor_95 x0 h = some (r, h')) : W p l e rmX0_commonDivisor s m args below meth c H locs 0 0 (MQ below (va_Qr (fun u => u = h') (fun u ra t => hp_B G h0 u t ∧ ra = r) (hp_A h0)) args s 0 0 (hp_A h0)) (F0 m 95 ls []) := by
  unfold bX0_commonDivisor_95 at hF
  refine lv_aload_n X.1 X.2.1 dX0_commonDivisor_95 rfl (lv_at hl 0 rfl) ?_
  obtain ⟨v1, e2, hF⟩ := hp_b hF
  refine hp_getr X Y (C := RX0) (T := TX0) (N := 6) (ci := 0) (k := 0) rfl inX0_commonDivisor_X0 (by decide) lkX0_commonDivisor_f14 e2 dX0_commonDivisor_96 ?_
  cases hF
  exact hp_rr X Y rfl (Or.inl ⟨_, rfl⟩) dX0_commonDivisor_99
set_option maxRecDepth 100000 in
set_option maxHeartbeats 4000000 in
theorem wX0_commonDivisor_89 {p : Program} {l : Launch} {e : Env} {s : State} {m : MethodId} {args : Array Value} {below : List Frame} {meth : Method} {c : Code} {G : hp_G} {h0 h' : hp_H} {r : Nat} (X : hp_X p s m args meth c cX0_commonDivisor 6 RX0 wsX0_commonDivisor (some (.object "WholeNumbers$Natural")) G) {k52 : Int32 → hp_H → Option (Nat × hp_H)} {x0 : Nat} {x3 : Nat} {x5 : Int32}  (hk52 : ∀ (y5 : Int32) (h : hp_H) (H : Heap) (locs : List Loc) (ls : Array Slot), hp_Y G h h0 s H locs → lv_has ls 6 [(0, .ref x0), (3, .ref x3), (5, .int y5)] → k52 y5 h = some (r, h') → W p l e rmX0_commonDivisor s m args below meth c H locs 0 0 (MQ below (va_Qr (fun u => u = h') (fun u ra t => hp_B G h0 u t ∧ ra = r) (hp_A h0)) args s 0 0 (hp_A h0)) (F0 m 52 ls [])) {h : hp_H} {H : Heap} {locs : List Loc} {ls : Array Slot} (Y : hp_Y G h h0 s H locs) (hl : lv_has ls 6 [(0, .ref x0), (3, .ref x3), (5, .int x5)]) (hF : bX0_commonDivisor_89 k52 x0 x3 x5 h = some (r, h')) : W p l e rmX0_commonDivisor s m args below meth c H locs 0 0 (MQ below (va_Qr (fun u => u = h') (fun u ra t => hp_B G h0 u t ∧ ra = r) (hp_A h0)) args s 0 0 (hp_A h0)) (F0 m 89 ls []) := by
  unfold bX0_commonDivisor_89 at hF
  obtain ⟨v1, e2, hF⟩ := hp_b hF
  refine lv_iinc (v := v1) (lv' := [(5, .int v1), (0, .ref x0), (3, .ref x3)]) X.1 X.2.1 dX0_commonDivisor_89 hl (k := 2) rfl (Option.some.inj e2) (by decide) rfl (fun ls hl => ?_)
  refine lv_goto (tgt := 52) X.1 X.2.1 dX0_commonDivisor_92 (by decide) ?_
  exact hk52 _ _  _ _ _ Y (lv_sub hl [1, 2, 0] rfl) hF
set_option maxRecDepth 100000 in
set_option maxHeartbeats 4000000 in
theorem wX0_commonDivisor_52 {p : Program} {l : Launch} {e : Env} {s : State} {m : MethodId} {args : Array Value} {below : List Frame} {meth : Method} {c : Code} {G : hp_G} {h0 h' : hp_H} {r : Nat} (X : hp_X p s m args meth c cX0_commonDivisor 6 RX0 wsX0_commonDivisor (some (.object "WholeNumbers$Natural")) G)  {x0 : Nat} {x3 : Nat}   : ∀ (n : Nat) {x5 : Int32} {h : hp_H} {H : Heap} {locs : List Loc} {ls : Array Slot} (Y : hp_Y G h h0 s H locs) (hl : lv_has ls 6 [(0, .ref x0), (3, .ref x3), (5, .int x5)]) (hF : bX0_commonDivisor_52 x0 x3 n x5 h = some (r, h')), W p l e rmX0_commonDivisor s m args below meth c H locs 0 0 (MQ below (va_Qr (fun u => u = h') (fun u ra t => hp_B G h0 u t ∧ ra = r) (hp_A h0)) args s 0 0 (hp_A h0)) (F0 m 52 ls []) := by
  intro n
  induction n with
  | zero =>
    intro x5 h H locs ls Y hl hF
    exact absurd (show none = some _ from hF) (by simp)
  | succ n ih =>
    intro x5 h H locs ls Y hl hF
    rw [bX0_commonDivisor_52] at hF
    refine lv_iload X.1 X.2.1 dX0_commonDivisor_52 (lv_at hl 2 rfl) ?_
    refine lv_sipush (v := 8194) X.1 X.2.1 dX0_commonDivisor_54 (by decide) ?_
    refine lv_icmp_ge (tgt := 95) X.1 X.2.1 dX0_commonDivisor_57 (by decide) (fun c1 => ?_) (fun c1 => ?_)
    · have hF := hp_ifp (c1) hF
      exact wX0_commonDivisor_95 X  Y (lv_sub hl [0] rfl) hF
    · have hF := hp_ifn (c1) hF
      refine lv_aload_n X.1 X.2.1 dX0_commonDivisor_60 rfl (lv_at hl 0 rfl) ?_
      obtain ⟨v2, e3, hF⟩ := hp_b hF
      refine hp_getr X Y (C := RX0) (T := TX0) (N := 6) (ci := 0) (k := 1) rfl inX0_commonDivisor_X0 (by decide) lkX0_commonDivisor_f18 e3 dX0_commonDivisor_61 ?_
      obtain ⟨v5, e4, hF⟩ := hp_b hF
      refine hp_ci Y (hp_runV X Y (ci := 2) (As := []) (n := 0) (T := TX2) (N := 2) (mX2_isZero l G e4) rfl (oX2_isZero e4) gX0_commonDivisor_X2_isZero rfl rfl rfl ndX2_isZero ⟨Nat.le_of_ble_eq_true rfl, Nat.le_of_ble_eq_true rfl⟩ rfl hl.1 rfl (Nat.le_of_ble_eq_true rfl) dX0_commonDivisor_64 ⟨Nat.zero_le _, Nat.zero_le _⟩) (fun H locs Y => ?_)
      refine lv_if_ne (tgt := 95) X.1 X.2.1 dX0_commonDivisor_67 (by decide) (fun c6 => ?_) (fun c6 => ?_)
      · have hF := hp_ifn (c6) hF
        exact wX0_commonDivisor_95 X  Y (lv_sub hl [0] rfl) hF
      · have hF := hp_ifp (c6) hF
        refine lv_aload_n X.1 X.2.1 dX0_commonDivisor_70 rfl (lv_at hl 0 rfl) ?_
        obtain ⟨⟨v9, h8⟩, e7, hF⟩ := hp_b hF
        refine hp_ci Y (hp_runV X Y (ci := 0) (As := []) (n := 0) (T := TX0) (N := 6) (mX0_foreseeSteps l G e7) rfl (oX0_foreseeSteps e7) gX0_commonDivisor_X0_foreseeSteps rfl rfl rfl ndX0_foreseeSteps ⟨Nat.le_of_ble_eq_true rfl, Nat.le_of_ble_eq_true rfl⟩ rfl hl.1 rfl (Nat.le_of_ble_eq_true rfl) dX0_commonDivisor_71 ⟨Nat.zero_le _, Nat.zero_le _⟩) (fun H locs Y => ?_)
        refine lv_if_eq (tgt := 84) X.1 X.2.1 dX0_commonDivisor_74 (by decide) (fun c11 => ?_) (fun c11 => ?_)
        · have hF := hp_ifp (c11) hF
          refine lv_aload_n X.1 X.2.1 dX0_commonDivisor_84 rfl (lv_at hl 0 rfl) ?_
          refine lv_aload_n X.1 X.2.1 dX0_commonDivisor_85 rfl (lv_at hl 1 rfl) ?_
          obtain ⟨h13, e12, hF⟩ := hp_b hF
          refine hp_cv Y (hp_runV X Y (ci := 0) (As := [.ref x3]) (n := 1) (T := TX0) (N := 6) (mX0_takeStep l G e12) rfl (oX0_takeStep e12) gX0_commonDivisor_X0_takeStep rfl rfl rfl ndX0_takeStep ⟨Nat.le_of_ble_eq_true rfl, Nat.le_of_ble_eq_true rfl⟩ rfl hl.1 rfl (Nat.le_of_ble_eq_true rfl) dX0_commonDivisor_86 ⟨Nat.zero_le _, Nat.zero_le _⟩) (fun H locs Y => ?_)
          exact wX0_commonDivisor_89 X (fun _ _ _ _ _ Y hl hF => ih Y hl hF) Y (lv_sub hl [0, 1, 2] rfl) hF
        · have hF := hp_ifn (c11) hF
          refine lv_aload_n X.1 X.2.1 dX0_commonDivisor_77 rfl (lv_at hl 0 rfl) ?_
          obtain ⟨h15, e14, hF⟩ := hp_b hF
          refine hp_cv Y (hp_runV X Y (ci := 0) (As := []) (n := 0) (T := TX0) (N := 6) (mX0_takeForeseenSteps l G e14) rfl (oX0_takeForeseenSteps e14) gX0_commonDivisor_X0_takeForeseenSteps rfl rfl rfl ndX0_takeForeseenSteps ⟨Nat.le_of_ble_eq_true rfl, Nat.le_of_ble_eq_true rfl⟩ rfl hl.1 rfl (Nat.le_of_ble_eq_true rfl) dX0_commonDivisor_78 ⟨Nat.zero_le _, Nat.zero_le _⟩) (fun H locs Y => ?_)
          refine lv_goto (tgt := 89) X.1 X.2.1 dX0_commonDivisor_81 (by decide) ?_
          exact wX0_commonDivisor_89 X (fun _ _ _ _ _ Y hl hF => ih Y hl hF) Y (lv_sub hl [0, 1, 2] rfl) hF
set_option maxRecDepth 100000 in
set_option maxHeartbeats 4000000 in
theorem wX0_commonDivisor_46 {p : Program} {l : Launch} {e : Env} {s : State} {m : MethodId} {args : Array Value} {below : List Frame} {meth : Method} {c : Code} {G : hp_G} {h0 h' : hp_H} {r : Nat} (X : hp_X p s m args meth c cX0_commonDivisor 6 RX0 wsX0_commonDivisor (some (.object "WholeNumbers$Natural")) G)  {x0 : Nat} {x3 : Nat}   {t0 : Nat} {t1 : Nat} {h : hp_H} {H : Heap} {locs : List Loc} {ls : Array Slot} (Y : hp_Y G h h0 s H locs) (hl : lv_has ls 6 [(0, .ref x0), (3, .ref x3)]) (hF : bX0_commonDivisor_46 x0 x3 t0 t1 h = some (r, h')) : W p l e rmX0_commonDivisor s m args below meth c H locs 0 0 (MQ below (va_Qr (fun u => u = h') (fun u ra t => hp_B G h0 u t ∧ ra = r) (hp_A h0)) args s 0 0 (hp_A h0)) (F0 m 46 ls [.ref t1, .ref t0]) := by
  unfold bX0_commonDivisor_46 at hF
  obtain ⟨h2, e1, hF⟩ := hp_b hF
  refine hp_cv Y (hp_runV X Y (ci := 2) (As := [.ref t1]) (n := 1) (T := TX2) (N := 2) (mX2_take l G e1) rfl (oX2_take e1) gX0_commonDivisor_X2_take rfl rfl rfl ndX2_take ⟨Nat.le_of_ble_eq_true rfl, Nat.le_of_ble_eq_true rfl⟩ rfl hl.1 rfl (Nat.le_of_ble_eq_true rfl) dX0_commonDivisor_46 ⟨Nat.zero_le _, Nat.zero_le _⟩) (fun H locs Y => ?_)
  refine lv_iconst (v := 0) X.1 X.2.1 dX0_commonDivisor_49 (by decide) ?_
  refine lv_istore (lv' := [(5, .int (0 : Int32)), (0, .ref x0), (3, .ref x3)]) X.1 X.2.1 dX0_commonDivisor_50 hl (by decide) rfl (fun ls hl => ?_)
  exact wX0_commonDivisor_52 X  hp_n Y (lv_sub hl [1, 2, 0] rfl) hF
set_option maxRecDepth 100000 in
set_option maxHeartbeats 4000000 in
theorem wX0_commonDivisor_29 {p : Program} {l : Launch} {e : Env} {s : State} {m : MethodId} {args : Array Value} {below : List Frame} {meth : Method} {c : Code} {G : hp_G} {h0 h' : hp_H} {r : Nat} (X : hp_X p s m args meth c cX0_commonDivisor 6 RX0 wsX0_commonDivisor (some (.object "WholeNumbers$Natural")) G)  {x0 : Nat} {x1 : Nat} {x2 : Nat} {x3 : Nat} {x4 : Int32}   {t0 : Nat} {t1 : Nat} {h : hp_H} {H : Heap} {locs : List Loc} {ls : Array Slot} (Y : hp_Y G h h0 s H locs) (hl : lv_has ls 6 [(0, .ref x0), (1, .ref x1), (2, .ref x2), (3, .ref x3), (4, .int x4)]) (hF : bX0_commonDivisor_29 x0 x1 x2 x3 x4 t0 t1 h = some (r, h')) : W p l e rmX0_commonDivisor s m args below meth c H locs 0 0 (MQ below (va_Qr (fun u => u = h') (fun u ra t => hp_B G h0 u t ∧ ra = r) (hp_A h0)) args s 0 0 (hp_A h0)) (F0 m 29 ls [.ref t1, .ref t0]) := by
  unfold bX0_commonDivisor_29 at hF
  obtain ⟨h2, e1, hF⟩ := hp_b hF
  refine hp_cv Y (hp_runV X Y (ci := 2) (As := [.ref t1]) (n := 1) (T := TX2) (N := 2) (mX2_take l G e1) rfl (oX2_take e1) gX0_commonDivisor_X2_take rfl rfl rfl ndX2_take ⟨Nat.le_of_ble_eq_true rfl, Nat.le_of_ble_eq_true rfl⟩ rfl hl.1 rfl (Nat.le_of_ble_eq_true rfl) dX0_commonDivisor_29 ⟨Nat.zero_le _, Nat.zero_le _⟩) (fun H locs Y => ?_)
  refine lv_aload_n X.1 X.2.1 dX0_commonDivisor_32 rfl (lv_at hl 0 rfl) ?_
  obtain ⟨v3, e4, hF⟩ := hp_b hF
  refine hp_getr X Y (C := RX0) (T := TX0) (N := 6) (ci := 0) (k := 1) rfl inX0_commonDivisor_X0 (by decide) lkX0_commonDivisor_f18 e4 dX0_commonDivisor_33 ?_
  refine lv_iload X.1 X.2.1 dX0_commonDivisor_36 (lv_at hl 4 rfl) ?_
  refine lv_if_eq (tgt := 45) X.1 X.2.1 dX0_commonDivisor_38 (by decide) (fun c5 => ?_) (fun c5 => ?_)
  · have hF := hp_ifp (c5) hF
    refine lv_aload_n X.1 X.2.1 dX0_commonDivisor_45 rfl (lv_at hl 1 rfl) ?_
    exact wX0_commonDivisor_46 X  Y (lv_sub hl [0, 3] rfl) hF
  · have hF := hp_ifn (c5) hF
    refine lv_aload_n X.1 X.2.1 dX0_commonDivisor_41 rfl (lv_at hl 2 rfl) ?_
    refine lv_goto (tgt := 46) X.1 X.2.1 dX0_commonDivisor_42 (by decide) ?_
    exact wX0_commonDivisor_46 X  Y (lv_sub hl [0, 3] rfl) hF
set_option maxRecDepth 100000 in
set_option maxHeartbeats 4000000 in
theorem wX0_commonDivisor_13 {p : Program} {l : Launch} {e : Env} {s : State} {m : MethodId} {args : Array Value} {below : List Frame} {meth : Method} {c : Code} {G : hp_G} {h0 h' : hp_H} {r : Nat} (X : hp_X p s m args meth c cX0_commonDivisor 6 RX0 wsX0_commonDivisor (some (.object "WholeNumbers$Natural")) G)  {x0 : Nat} {x1 : Nat} {x2 : Nat} {x3 : Nat}   {t0 : Int32} {h : hp_H} {H : Heap} {locs : List Loc} {ls : Array Slot} (Y : hp_Y G h h0 s H locs) (hl : lv_has ls 6 [(0, .ref x0), (1, .ref x1), (2, .ref x2), (3, .ref x3)]) (hF : bX0_commonDivisor_13 x0 x1 x2 x3 t0 h = some (r, h')) : W p l e rmX0_commonDivisor s m args below meth c H locs 0 0 (MQ below (va_Qr (fun u => u = h') (fun u ra t => hp_B G h0 u t ∧ ra = r) (hp_A h0)) args s 0 0 (hp_A h0)) (F0 m 13 ls [.int t0]) := by
  unfold bX0_commonDivisor_13 at hF
  refine lv_istore (lv' := [(4, .int t0), (0, .ref x0), (1, .ref x1), (2, .ref x2), (3, .ref x3)]) X.1 X.2.1 dX0_commonDivisor_13 hl (by decide) rfl (fun ls hl => ?_)
  refine lv_aload_n X.1 X.2.1 dX0_commonDivisor_15 rfl (lv_at hl 1 rfl) ?_
  obtain ⟨v1, e2, hF⟩ := hp_b hF
  refine hp_getr X Y (C := RX0) (T := TX0) (N := 6) (ci := 0) (k := 0) rfl inX0_commonDivisor_X0 (by decide) lkX0_commonDivisor_f14 e2 dX0_commonDivisor_16 ?_
  refine lv_iload X.1 X.2.1 dX0_commonDivisor_19 (lv_at hl 0 rfl) ?_
  refine lv_if_eq (tgt := 28) X.1 X.2.1 dX0_commonDivisor_21 (by decide) (fun c3 => ?_) (fun c3 => ?_)
  · have hF := hp_ifp (c3) hF
    refine lv_aload_n X.1 X.2.1 dX0_commonDivisor_28 rfl (lv_at hl 3 rfl) ?_
    exact wX0_commonDivisor_29 X  Y (lv_sub hl [1, 2, 3, 4, 0] rfl) hF
  · have hF := hp_ifn (c3) hF
    refine lv_aload_n X.1 X.2.1 dX0_commonDivisor_24 rfl (lv_at hl 2 rfl) ?_
    refine lv_goto (tgt := 29) X.1 X.2.1 dX0_commonDivisor_25 (by decide) ?_
    exact wX0_commonDivisor_29 X  Y (lv_sub hl [1, 2, 3, 4, 0] rfl) hF
theorem oX0_commonDivisor {x0 : Nat} {x1 : Nat} {x2 : Nat} {x3 : Nat} {h h' : hp_H} {r : Nat} (hF : fX0_commonDivisor x0 x1 x2 x3 h = some (r, h')) : hp_o h x0 0 = true := by
  unfold fX0_commonDivisor at hF
  exact (hp_ift hF).1
set_option maxRecDepth 100000 in
set_option maxHeartbeats 4000000 in
theorem mX0_commonDivisor (l : Launch) (G : hp_G) {x0 : Nat} {x1 : Nat} {x2 : Nat} {x3 : Nat} {h h' : hp_H} {r : Nat} (hF : fX0_commonDivisor x0 x1 x2 x3 h = some (r, h')) : Met l yX0_commonDivisor wsX0_commonDivisor rmX0_commonDivisor (va_Pc [.ref x0, .ref x1, .ref x2, .ref x3] (hp_S G h)) (va_Qr (fun u => u = h') (fun u ra t => hp_B G h u t ∧ ra = r) (hp_A h)) 0 0 (hp_A h) := by
  refine hp_met (cc := cX0_commonDivisor) (nL := 6) (ret := (some (.object "WholeNumbers$Natural"))) (by decide) rfl ?_
  intro p e s m below meth c X Y
  have hl := lv_entry ([.ref x0, .ref x1, .ref x2, .ref x3]) (n := 6) (Nat.le_of_ble_eq_true rfl)
  rw [lg_entry_eq]
  generalize (lg_sl ([.ref x0, .ref x1, .ref x2, .ref x3]) ++ List.replicate (6 - (lg_sl ([.ref x0, .ref x1, .ref x2, .ref x3])).length) Slot.unset).toArray = ls at hl ⊢
  have hl : lv_has ls 6 [(0, .ref x0), (1, .ref x1), (2, .ref x2), (3, .ref x3)] := hl
  unfold fX0_commonDivisor at hF
  obtain ⟨ho, hF⟩ := hp_ift hF
  refine lv_aload_n X.1 X.2.1 dX0_commonDivisor_0 rfl (lv_at hl 1 rfl) ?_
  refine lv_aload_n X.1 X.2.1 dX0_commonDivisor_1 rfl (lv_at hl 2 rfl) ?_
  obtain ⟨v2, e1, hF⟩ := hp_b hF
  refine hp_ci Y (hp_runV X Y (ci := 2) (As := [.ref x2]) (n := 1) (T := TX2) (N := 2) (mX2_order l G e1) rfl (oX2_order e1) gX0_commonDivisor_X2_order rfl rfl rfl ndX2_order ⟨Nat.le_of_ble_eq_true rfl, Nat.le_of_ble_eq_true rfl⟩ rfl hl.1 rfl (Nat.le_of_ble_eq_true rfl) dX0_commonDivisor_2 ⟨Nat.zero_le _, Nat.zero_le _⟩) (fun H locs Y => ?_)
  refine lv_if_lt (tgt := 12) X.1 X.2.1 dX0_commonDivisor_5 (by decide) (fun c3 => ?_) (fun c3 => ?_)
  · have hF := hp_ifp (c3) hF
    refine lv_iconst (v := 0) X.1 X.2.1 dX0_commonDivisor_12 (by decide) ?_
    exact wX0_commonDivisor_13 X  Y (lv_sub hl [0, 1, 2, 3] rfl) hF
  · have hF := hp_ifn (c3) hF
    refine lv_iconst (v := 1) X.1 X.2.1 dX0_commonDivisor_8 (by decide) ?_
    refine lv_goto (tgt := 13) X.1 X.2.1 dX0_commonDivisor_9 (by decide) ?_
    exact wX0_commonDivisor_13 X  Y (lv_sub hl [0, 1, 2, 3] rfl) hF
