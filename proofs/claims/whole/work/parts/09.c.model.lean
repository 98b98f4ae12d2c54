/-! WholeNumbersModel.shift -/
def rmX6_shift : Room := { frames := 4, cells := 0, slots := 0, locals := 93 }
def bX6_shift_121  (x0 : Nat) (x1 : Int32) (x2 : Int32) : Nat → Int32 → hp_H → Option (Int32 × hp_H)
  | 0, _, _ => none
  | n + 1, x4, h =>
  (hp_gi h x0 6 8).bind fun v1 =>
  if v1 ≤ x4 then (
    (hp_gr h x0 6 6).bind fun v4 =>
    (hp_gi h x0 6 8).bind fun v6 =>
    (hp_gr h x0 6 2).bind fun v8 =>
    (hp_ai h 0 v8 x2).bind fun v10 =>
    (fX6_put x0 x1 v4 v6 v10 h).bind fun (v14, h13) =>
    some (v14, h13))
  else (
    (hp_gr h x0 6 6).bind fun v16 =>
    (hp_gr h x0 6 5).bind fun v18 =>
    (hp_ai h 0 v18 x4).bind fun v20 =>
    (hp_si h 0 v16 x4 v20).bind fun h22 =>
    (some (x4 + (1 : Int32))).bind fun v24 =>
    bX6_shift_121 x0 x1 x2 n v24 h22)
def bX6_shift_90  (x0 : Nat) (x1 : Int32) (x2 : Int32) (x3 : Int32) : Nat → Int32 → hp_H → Option (Int32 × hp_H)
  | 0, _, _ => none
  | n + 1, x4, h =>
  if (-x3) ≤ x4 then (
    bX6_shift_121 x0 x1 x2 hp_n (0 : Int32) h)
  else (
    (hp_gr h x0 6 5).bind fun v2 =>
    (hp_gi h x0 6 8).bind fun v4 =>
    (fX6_half v2 v4 h).bind fun (v8, h7) =>
    (hp_pv h7 x0 6 8 (.int v8)).bind fun h10 =>
    (some (x4 + (1 : Int32))).bind fun v12 =>
    bX6_shift_90 x0 x1 x2 x3 n v12 h10)
def bX6_shift_43  (x0 : Nat) (x1 : Int32) (x2 : Int32) (x3 : Int32) : Nat → Int32 → hp_H → Option (Int32 × hp_H)
  | 0, _, _ => none
  | n + 1, x4, h =>
  if x3 ≤ x4 then (
    bX6_shift_90 x0 x1 x2 x3 hp_n (0 : Int32) h)
  else (
    (hp_gr h x0 6 5).bind fun v2 =>
    (hp_gi h x0 6 8).bind fun v4 =>
    (fX6_twice v2 v4 h).bind fun (v8, h7) =>
    (hp_pv h7 x0 6 8 (.int v8)).bind fun h10 =>
    (hp_gr h10 x0 6 5).bind fun v12 =>
    (hp_gi h10 x0 6 8).bind fun v14 =>
    (fX6_isWithin x0 v12 v14 h10).bind fun v17 =>
    if v17 = 0 then (
      some ((-1 : Int32), h10))
    else (
      (some (x4 + (1 : Int32))).bind fun v19 =>
      bX6_shift_43 x0 x1 x2 x3 n v19 h10))
def fX6_shift (x0 : Nat) (x1 : Int32) (x2 : Int32) (x3 : Int32) (h : hp_H) : Option (Int32 × hp_H) :=
  if hp_o h x0 6 = true then
  (hp_pv h x0 6 11 (.int (0 : Int32))).bind fun h1 =>
  (fX6_isRegister x1).bind fun v4 =>
  if v4 = 0 then (
    some ((-1 : Int32), h1))
  else (
    (fX6_isRegister x2).bind fun v7 =>
    if v7 = 0 then (
      some ((-1 : Int32), h1))
    else (
      if x3 < (-4096 : Int32) then (
        some ((-1 : Int32), h1))
      else (
        if x3 ≤ (4096 : Int32) then (
          (fX6_toX x0 x2 h1).bind fun h12 =>
          bX6_shift_43 x0 x1 x2 x3 hp_n (0 : Int32) h12)
        else (
          some ((-1 : Int32), h1)))))
  else none
theorem inX6_shift_X6 : ∀ w ∈ wsX60, w ∈ wsX6_shift := by decide +kernel
theorem lkX6_shift_f34 : Cond.fieldLink RX6 34 (TX6 8).1 (TX6 8).2.1 (TX6 8).2.2.1 ∈ wsX6_shift := by decide +kernel
theorem lkX6_shift_f25 : Cond.fieldLink RX6 25 (TX6 6).1 (TX6 6).2.1 (TX6 6).2.2.1 ∈ wsX6_shift := by decide +kernel
theorem lkX6_shift_f16 : Cond.fieldLink RX6 16 (TX6 2).1 (TX6 2).2.1 (TX6 2).2.2.1 ∈ wsX6_shift := by decide +kernel
theorem lkX6_shift_f22 : Cond.fieldLink RX6 22 (TX6 5).1 (TX6 5).2.1 (TX6 5).2.2.1 ∈ wsX6_shift := by decide +kernel
theorem lkX6_shift_f45 : Cond.fieldLink RX6 45 (TX6 11).1 (TX6 11).2.1 (TX6 11).2.2.1 ∈ wsX6_shift := by decide +kernel
theorem ndX6_shift : yX6_shift.cls ≠ "java/lang/invoke/MethodHandle" ∧ yX6_shift.cls ≠ "java/lang/invoke/VarHandle" ∧ (parseMethodDescriptor yX6_shift.desc).map (fun d => d.parameters.length) = some 3 := by decide +kernel
set_option maxRecDepth 100000 in
set_option maxHeartbeats 4000000 in
theorem wX6_shift_121 {p : Program} {l : Launch} {e : Env} {s : State} {m : MethodId} {args : Array Value} {below : List Frame} {meth : Method} {c : Code} {G : hp_G} {h0 h' : hp_H} {r : Int32} (X : hp_X p s m args meth c cX6_shift 5 RX6 wsX6_shift (some .int) G)  {x0 : Nat} {x1 : Int32} {x2 : Int32}   : ∀ (n : Nat) {x4 : Int32} {h : hp_H} {H : Heap} {locs : List Loc} {ls : Array Slot} (Y : hp_Y G h h0 s H locs) (hl : lv_has ls 5 [(0, .ref x0), (1, .int x1), (2, .int x2), (4, .int x4)]) (hF : bX6_shift_121 x0 x1 x2 n x4 h = some (r, h')), W p l e rmX6_shift s m args below meth c H locs 0 0 (MQ below (va_Qi (fun r' u => r' = r ∧ u = h') (hp_B G h0) (hp_A h0)) args s 0 0 (hp_A h0)) (F0 m 121 ls []) := by
  intro n
  induction n with
  | zero =>
    intro x4 h H locs ls Y hl hF
    exact absurd (show none = some _ from hF) (by simp)
  | succ n ih =>
    intro x4 h H locs ls Y hl hF
    rw [bX6_shift_121] at hF
    refine lv_iload X.1 X.2.1 dX6_shift_121 (lv_at hl 3 rfl) ?_
    refine lv_aload_n X.1 X.2.1 dX6_shift_123 rfl (lv_at hl 0 rfl) ?_
    obtain ⟨v1, e2, hF⟩ := hp_b hF
    refine hp_geti X Y (C := RX6) (T := TX6) (N := 14) (ci := 6) (k := 8) rfl inX6_shift_X6 (by decide) lkX6_shift_f34 e2 dX6_shift_124 ?_
    refine lv_icmp_ge (tgt := 150) X.1 X.2.1 dX6_shift_127 (by decide) (fun c3 => ?_) (fun c3 => ?_)
    · have hF := hp_ifp (c3) hF
      refine lv_aload_n X.1 X.2.1 dX6_shift_150 rfl (lv_at hl 0 rfl) ?_
      refine lv_iload_n X.1 X.2.1 dX6_shift_151 rfl (lv_at hl 1 rfl) ?_
      refine lv_aload_n X.1 X.2.1 dX6_shift_152 rfl (lv_at hl 0 rfl) ?_
      obtain ⟨v4, e5, hF⟩ := hp_b hF
      refine hp_getr X Y (C := RX6) (T := TX6) (N := 14) (ci := 6) (k := 6) rfl inX6_shift_X6 (by decide) lkX6_shift_f25 e5 dX6_shift_153 ?_
      refine lv_aload_n X.1 X.2.1 dX6_shift_156 rfl (lv_at hl 0 rfl) ?_
      obtain ⟨v6, e7, hF⟩ := hp_b hF
      refine hp_geti X Y (C := RX6) (T := TX6) (N := 14) (ci := 6) (k := 8) rfl inX6_shift_X6 (by decide) lkX6_shift_f34 e7 dX6_shift_157 ?_
      refine lv_aload_n X.1 X.2.1 dX6_shift_160 rfl (lv_at hl 0 rfl) ?_
      obtain ⟨v8, e9, hF⟩ := hp_b hF
      refine hp_getr X Y (C := RX6) (T := TX6) (N := 14) (ci := 6) (k := 2) rfl inX6_shift_X6 (by decide) lkX6_shift_f16 e9 dX6_shift_161 ?_
      refine lv_iload_n X.1 X.2.1 dX6_shift_164 rfl (lv_at hl 2 rfl) ?_
      obtain ⟨v10, e11, hF⟩ := hp_b hF
      refine hp_iald X Y e11 dX6_shift_165 ?_
      obtain ⟨⟨v14, h13⟩, e12, hF⟩ := hp_b hF
      refine hp_ci Y (hp_runV X Y (ci := 6) (As := [.int x1, .ref v4, .int v6, .int v10]) (n := 4) (T := TX6) (N := 14) (mX6_put l G e12) rfl (oX6_put e12) gX6_shift_X6_put rfl rfl rfl ndX6_put ⟨Nat.le_of_ble_eq_true rfl, Nat.le_of_ble_eq_true rfl⟩ rfl hl.1 rfl (Nat.le_of_ble_eq_true rfl) dX6_shift_166 ⟨Nat.zero_le _, Nat.zero_le _⟩) (fun H locs Y => ?_)
      cases hF
      exact hp_ri X Y rfl rfl dX6_shift_169
    · have hF := hp_ifn (c3) hF
      refine lv_aload_n X.1 X.2.1 dX6_shift_130 rfl (lv_at hl 0 rfl) ?_
      obtain ⟨v16, e17, hF⟩ := hp_b hF
      refine hp_getr X Y (C := RX6) (T := TX6) (N := 14) (ci := 6) (k := 6) rfl inX6_shift_X6 (by decide) lkX6_shift_f25 e17 dX6_shift_131 ?_
      refine lv_iload X.1 X.2.1 dX6_shift_134 (lv_at hl 3 rfl) ?_
      refine lv_aload_n X.1 X.2.1 dX6_shift_136 rfl (lv_at hl 0 rfl) ?_
      obtain ⟨v18, e19, hF⟩ := hp_b hF
      refine hp_getr X Y (C := RX6) (T := TX6) (N := 14) (ci := 6) (k := 5) rfl inX6_shift_X6 (by decide) lkX6_shift_f22 e19 dX6_shift_137 ?_
      refine lv_iload X.1 X.2.1 dX6_shift_140 (lv_at hl 3 rfl) ?_
      obtain ⟨v20, e21, hF⟩ := hp_b hF
      refine hp_iald X Y e21 dX6_shift_142 ?_
      obtain ⟨h22, e23, hF⟩ := hp_b hF
      refine hp_iast X Y e23 dX6_shift_143 (fun H locs Y => ?_)
      obtain ⟨v24, e25, hF⟩ := hp_b hF
      refine lv_iinc (v := v24) (lv' := [(4, .int v24), (0, .ref x0), (1, .int x1), (2, .int x2)]) X.1 X.2.1 dX6_shift_144 hl (k := 3) rfl (Option.some.inj e25) (by decide) rfl (fun ls hl => ?_)
      refine lv_goto (tgt := 121) X.1 X.2.1 dX6_shift_147 (by decide) ?_
      exact ih Y (lv_sub hl [1, 2, 3, 0] rfl) hF
set_option maxRecDepth 100000 in
set_option maxHeartbeats 4000000 in
theorem wX6_shift_90 {p : Program} {l : Launch} {e : Env} {s : State} {m : MethodId} {args : Array Value} {below : List Frame} {meth : Method} {c : Code} {G : hp_G} {h0 h' : hp_H} {r : Int32} (X : hp_X p s m args meth c cX6_shift 5 RX6 wsX6_shift (some .int) G)  {x0 : Nat} {x1 : Int32} {x2 : Int32} {x3 : Int32}   : ∀ (n : Nat) {x4 : Int32} {h : hp_H} {H : Heap} {locs : List Loc} {ls : Array Slot} (Y : hp_Y G h h0 s H locs) (hl : lv_has ls 5 [(0, .ref x0), (1, .int x1), (2, .int x2), (3, .int x3), (4, .int x4)]) (hF : bX6_shift_90 x0 x1 x2 x3 n x4 h = some (r, h')), W p l e rmX6_shift s m args below meth c H locs 0 0 (MQ below (va_Qi (fun r' u => r' = r ∧ u = h') (hp_B G h0) (hp_A h0)) args s 0 0 (hp_A h0)) (F0 m 90 ls []) := by
  intro n
  induction n with
  | zero =>
    intro x4 h H locs ls Y hl hF
    exact absurd (show none = some _ from hF) (by simp)
  | succ n ih =>
    intro x4 h H locs ls Y hl hF
    rw [bX6_shift_90] at hF
    refine lv_iload X.1 X.2.1 dX6_shift_90 (lv_at hl 4 rfl) ?_
    refine lv_iload_n X.1 X.2.1 dX6_shift_92 rfl (lv_at hl 3 rfl) ?_
    refine lv_ineg X.1 X.2.1 dX6_shift_93 ?_
    refine lv_icmp_ge (tgt := 118) X.1 X.2.1 dX6_shift_94 (by decide) (fun c1 => ?_) (fun c1 => ?_)
    · have hF := hp_ifp (c1) hF
      refine lv_iconst (v := 0) X.1 X.2.1 dX6_shift_118 (by decide) ?_
      refine lv_istore (lv' := [(4, .int (0 : Int32)), (0, .ref x0), (1, .int x1), (2, .int x2), (3, .int x3)]) X.1 X.2.1 dX6_shift_119 hl (by decide) rfl (fun ls hl => ?_)
      exact wX6_shift_121 X  hp_n Y (lv_sub hl [1, 2, 3, 0] rfl) hF
    · have hF := hp_ifn (c1) hF
      refine lv_aload_n X.1 X.2.1 dX6_shift_97 rfl (lv_at hl 0 rfl) ?_
      refine lv_aload_n X.1 X.2.1 dX6_shift_98 rfl (lv_at hl 0 rfl) ?_
      obtain ⟨v2, e3, hF⟩ := hp_b hF
      refine hp_getr X Y (C := RX6) (T := TX6) (N := 14) (ci := 6) (k := 5) rfl inX6_shift_X6 (by decide) lkX6_shift_f22 e3 dX6_shift_99 ?_
      refine lv_aload_n X.1 X.2.1 dX6_shift_102 rfl (lv_at hl 0 rfl) ?_
      obtain ⟨v4, e5, hF⟩ := hp_b hF
      refine hp_geti X Y (C := RX6) (T := TX6) (N := 14) (ci := 6) (k := 8) rfl inX6_shift_X6 (by decide) lkX6_shift_f34 e5 dX6_shift_103 ?_
      obtain ⟨⟨v8, h7⟩, e6, hF⟩ := hp_b hF
      refine hp_ci Y (hp_runS X Y (As := [.ref v2, .int v4]) (n := 2) (mX6_half l G e6) gX6_shift_X6_half rfl rfl rfl ndX6_half ⟨Nat.le_of_ble_eq_true rfl, Nat.le_of_ble_eq_true rfl⟩ rfl hl.1 rfl (Nat.le_of_ble_eq_true rfl) dX6_shift_106 ⟨Nat.zero_le _, Nat.zero_le _⟩) (fun H locs Y => ?_)
      obtain ⟨h10, e11, hF⟩ := hp_b hF
      refine hp_put X Y (C := RX6) (T := TX6) (N := 14) (ci := 6) (k := 8) (ty0 := tyX6) rfl inX6_shift_X6 tyX6_ok nmX6 (by decide) lkX6_shift_f34 rfl rfl rfl e11 dX6_shift_109 (fun H locs Y => ?_)
      obtain ⟨v12, e13, hF⟩ := hp_b hF
      refine lv_iinc (v := v12) (lv' := [(4, .int v12), (0, .ref x0), (1, .int x1), (2, .int x2), (3, .int x3)]) X.1 X.2.1 dX6_shift_112 hl (k := 4) rfl (Option.some.inj e13) (by decide) rfl (fun ls hl => ?_)
      refine lv_goto (tgt := 90) X.1 X.2.1 dX6_shift_115 (by decide) ?_
      exact ih Y (lv_sub hl [1, 2, 3, 4, 0] rfl) hF
set_option maxRecDepth 100000 in
set_option maxHeartbeats 4000000 in
theorem wX6_shift_43 {p : Program} {l : Launch} {e : Env} {s : State} {m : MethodId} {args : Array Value} {below : List Frame} {meth : Method} {c : Code} {G : hp_G} {h0 h' : hp_H} {r : Int32} (X : hp_X p s m args meth c cX6_shift 5 RX6 wsX6_shift (some .int) G)  {x0 : Nat} {x1 : Int32} {x2 : Int32} {x3 : Int32}   : ∀ (n : Nat) {x4 : Int32} {h : hp_H} {H : Heap} {locs : List Loc} {ls : Array Slot} (Y : hp_Y G h h0 s H locs) (hl : lv_has ls 5 [(0, .ref x0), (1, .int x1), (2, .int x2), (3, .int x3), (4, .int x4)]) (hF : bX6_shift_43 x0 x1 x2 x3 n x4 h = some (r, h')), W p l e rmX6_shift s m args below meth c H locs 0 0 (MQ below (va_Qi (fun r' u => r' = r ∧ u = h') (hp_B G h0) (hp_A h0)) args s 0 0 (hp_A h0)) (F0 m 43 ls []) := by
  intro n
  induction n with
  | zero =>
    intro x4 h H locs ls Y hl hF
    exact absurd (show none = some _ from hF) (by simp)
  | succ n ih =>
    intro x4 h H locs ls Y hl hF
    rw [bX6_shift_43] at hF
    refine lv_iload X.1 X.2.1 dX6_shift_43 (lv_at hl 4 rfl) ?_
    refine lv_iload_n X.1 X.2.1 dX6_shift_45 rfl (lv_at hl 3 rfl) ?_
    refine lv_icmp_ge (tgt := 87) X.1 X.2.1 dX6_shift_46 (by decide) (fun c1 => ?_) (fun c1 => ?_)
    · have hF := hp_ifp (c1) hF
      refine lv_iconst (v := 0) X.1 X.2.1 dX6_shift_87 (by decide) ?_
      refine lv_istore (lv' := [(4, .int (0 : Int32)), (0, .ref x0), (1, .int x1), (2, .int x2), (3, .int x3)]) X.1 X.2.1 dX6_shift_88 hl (by decide) rfl (fun ls hl => ?_)
      exact wX6_shift_90 X  hp_n Y (lv_sub hl [1, 2, 3, 4, 0] rfl) hF
    · have hF := hp_ifn (c1) hF
      refine lv_aload_n X.1 X.2.1 dX6_shift_49 rfl (lv_at hl 0 rfl) ?_
      refine lv_aload_n X.1 X.2.1 dX6_shift_50 rfl (lv_at hl 0 rfl) ?_
      obtain ⟨v2, e3, hF⟩ := hp_b hF
      refine hp_getr X Y (C := RX6) (T := TX6) (N := 14) (ci := 6) (k := 5) rfl inX6_shift_X6 (by decide) lkX6_shift_f22 e3 dX6_shift_51 ?_
      refine lv_aload_n X.1 X.2.1 dX6_shift_54 rfl (lv_at hl 0 rfl) ?_
      obtain ⟨v4, e5, hF⟩ := hp_b hF
      refine hp_geti X Y (C := RX6) (T := TX6) (N := 14) (ci := 6) (k := 8) rfl inX6_shift_X6 (by decide) lkX6_shift_f34 e5 dX6_shift_55 ?_
      obtain ⟨⟨v8, h7⟩, e6, hF⟩ := hp_b hF
      refine hp_ci Y (hp_runS X Y (As := [.ref v2, .int v4]) (n := 2) (mX6_twice l G e6) gX6_shift_X6_twice rfl rfl rfl ndX6_twice ⟨Nat.le_of_ble_eq_true rfl, Nat.le_of_ble_eq_true rfl⟩ rfl hl.1 rfl (Nat.le_of_ble_eq_true rfl) dX6_shift_58 ⟨Nat.zero_le _, Nat.zero_le _⟩) (fun H locs Y => ?_)
      obtain ⟨h10, e11, hF⟩ := hp_b hF
      refine hp_put X Y (C := RX6) (T := TX6) (N := 14) (ci := 6) (k := 8) (ty0 := tyX6) rfl inX6_shift_X6 tyX6_ok nmX6 (by decide) lkX6_shift_f34 rfl rfl rfl e11 dX6_shift_61 (fun H locs Y => ?_)
      refine lv_aload_n X.1 X.2.1 dX6_shift_64 rfl (lv_at hl 0 rfl) ?_
      refine lv_aload_n X.1 X.2.1 dX6_shift_65 rfl (lv_at hl 0 rfl) ?_
      obtain ⟨v12, e13, hF⟩ := hp_b hF
      refine hp_getr X Y (C := RX6) (T := TX6) (N := 14) (ci := 6) (k := 5) rfl inX6_shift_X6 (by decide) lkX6_shift_f22 e13 dX6_shift_66 ?_
      refine lv_aload_n X.1 X.2.1 dX6_shift_69 rfl (lv_at hl 0 rfl) ?_
      obtain ⟨v14, e15, hF⟩ := hp_b hF
      refine hp_geti X Y (C := RX6) (T := TX6) (N := 14) (ci := 6) (k := 8) rfl inX6_shift_X6 (by decide) lkX6_shift_f34 e15 dX6_shift_70 ?_
      obtain ⟨v17, e16, hF⟩ := hp_b hF
      refine hp_ci Y (hp_runV X Y (ci := 6) (As := [.ref v12, .int v14]) (n := 2) (T := TX6) (N := 14) (mX6_isWithin l G e16) rfl (oX6_isWithin e16) gX6_shift_X6_isWithin rfl rfl rfl ndX6_isWithin ⟨Nat.le_of_ble_eq_true rfl, Nat.le_of_ble_eq_true rfl⟩ rfl hl.1 rfl (Nat.le_of_ble_eq_true rfl) dX6_shift_73 ⟨Nat.zero_le _, Nat.zero_le _⟩) (fun H locs Y => ?_)
      refine lv_if_ne (tgt := 81) X.1 X.2.1 dX6_shift_76 (by decide) (fun c18 => ?_) (fun c18 => ?_)
      · have hF := hp_ifn (c18) hF
        obtain ⟨v19, e20, hF⟩ := hp_b hF
        refine lv_iinc (v := v19) (lv' := [(4, .int v19), (0, .ref x0), (1, .int x1), (2, .int x2), (3, .int x3)]) X.1 X.2.1 dX6_shift_81 hl (k := 4) rfl (Option.some.inj e20) (by decide) rfl (fun ls hl => ?_)
        refine lv_goto (tgt := 43) X.1 X.2.1 dX6_shift_84 (by decide) ?_
        exact ih Y (lv_sub hl [1, 2, 3, 4, 0] rfl) hF
      · have hF := hp_ifp (c18) hF
        refine lv_iconst (v := -1) X.1 X.2.1 dX6_shift_79 (by decide) ?_
        cases hF
        exact hp_ri X Y rfl rfl dX6_shift_80
theorem oX6_shift {x0 : Nat} {x1 : Int32} {x2 : Int32} {x3 : Int32} {h h' : hp_H} {r : Int32} (hF : fX6_shift x0 x1 x2 x3 h = some (r, h')) : hp_o h x0 6 = true := by
  unfold fX6_shift at hF
  exact (hp_ift hF).1
set_option maxRecDepth 100000 in
set_option maxHeartbeats 4000000 in
theorem mX6_shift (l : Launch) (G : hp_G) {x0 : Nat} {x1 : Int32} {x2 : Int32} {x3 : Int32} {h h' : hp_H} {r : Int32} (hF : fX6_shift x0 x1 x2 x3 h = some (r, h')) : Met l yX6_shift wsX6_shift rmX6_shift (va_Pc [.ref x0, .int x1, .int x2, .int x3] (hp_S G h)) (va_Qi (fun r' u => r' = r ∧ u = h') (hp_B G h) (hp_A h)) 0 0 (hp_A h) := by
  refine hp_met (cc := cX6_shift) (nL := 5) (ret := (some .int)) (by decide) rfl ?_
  intro p e s m below meth c X Y
  have hl := lv_entry ([.ref x0, .int x1, .int x2, .int x3]) (n := 5) (Nat.le_of_ble_eq_true rfl)
  rw [lg_entry_eq]
  generalize (lg_sl ([.ref x0, .int x1, .int x2, .int x3]) ++ List.replicate (5 - (lg_sl ([.ref x0, .int x1, .int x2, .int x3])).length) Slot.unset).toArray = ls at hl ⊢
  have hl : lv_has ls 5 [(0, .ref x0), (1, .int x1), (2, .int x2), (3, .int x3)] := hl
  unfold fX6_shift at hF
  obtain ⟨ho, hF⟩ := hp_ift hF
  refine lv_aload_n X.1 X.2.1 dX6_shift_0 rfl (lv_at hl 0 rfl) ?_
  refine lv_iconst (v := 0) X.1 X.2.1 dX6_shift_1 (by decide) ?_
  obtain ⟨h1, e2, hF⟩ := hp_b hF
  refine hp_put X Y (C := RX6) (T := TX6) (N := 14) (ci := 6) (k := 11) (ty0 := tyX6) rfl inX6_shift_X6 tyX6_ok nmX6 (by decide) lkX6_shift_f45 rfl rfl rfl e2 dX6_shift_2 (fun H locs Y => ?_)
  refine lv_iload_n X.1 X.2.1 dX6_shift_5 rfl (lv_at hl 1 rfl) ?_
  obtain ⟨v4, e3, hF⟩ := hp_b hF
  refine hp_ci Y (hp_runS X Y (As := [.int x1]) (n := 1) (mX6_isRegister l G e3) gX6_shift_X6_isRegister rfl rfl rfl ndX6_isRegister ⟨Nat.le_of_ble_eq_true rfl, Nat.le_of_ble_eq_true rfl⟩ rfl hl.1 rfl (Nat.le_of_ble_eq_true rfl) dX6_shift_6 ⟨Nat.zero_le _, Nat.zero_le _⟩) (fun H locs Y => ?_)
  refine lv_if_eq (tgt := 33) X.1 X.2.1 dX6_shift_9 (by decide) (fun c5 => ?_) (fun c5 => ?_)
  · have hF := hp_ifp (c5) hF
    refine lv_iconst (v := -1) X.1 X.2.1 dX6_shift_33 (by decide) ?_
    cases hF
    exact hp_ri X Y rfl rfl dX6_shift_34
  · have hF := hp_ifn (c5) hF
    refine lv_iload_n X.1 X.2.1 dX6_shift_12 rfl (lv_at hl 2 rfl) ?_
    obtain ⟨v7, e6, hF⟩ := hp_b hF
    refine hp_ci Y (hp_runS X Y (As := [.int x2]) (n := 1) (mX6_isRegister l G e6) gX6_shift_X6_isRegister rfl rfl rfl ndX6_isRegister ⟨Nat.le_of_ble_eq_true rfl, Nat.le_of_ble_eq_true rfl⟩ rfl hl.1 rfl (Nat.le_of_ble_eq_true rfl) dX6_shift_13 ⟨Nat.zero_le _, Nat.zero_le _⟩) (fun H locs Y => ?_)
    refine lv_if_eq (tgt := 33) X.1 X.2.1 dX6_shift_16 (by decide) (fun c8 => ?_) (fun c8 => ?_)
    · have hF := hp_ifp (c8) hF
      refine lv_iconst (v := -1) X.1 X.2.1 dX6_shift_33 (by decide) ?_
      cases hF
      exact hp_ri X Y rfl rfl dX6_shift_34
    · have hF := hp_ifn (c8) hF
      refine lv_iload_n X.1 X.2.1 dX6_shift_19 rfl (lv_at hl 3 rfl) ?_
      refine lv_sipush (v := -4096) X.1 X.2.1 dX6_shift_20 (by decide) ?_
      refine lv_icmp_lt (tgt := 33) X.1 X.2.1 dX6_shift_23 (by decide) (fun c9 => ?_) (fun c9 => ?_)
      · have hF := hp_ifp (c9) hF
        refine lv_iconst (v := -1) X.1 X.2.1 dX6_shift_33 (by decide) ?_
        cases hF
        exact hp_ri X Y rfl rfl dX6_shift_34
      · have hF := hp_ifn (c9) hF
        refine lv_iload_n X.1 X.2.1 dX6_shift_26 rfl (lv_at hl 3 rfl) ?_
        refine lv_sipush (v := 4096) X.1 X.2.1 dX6_shift_27 (by decide) ?_
        refine lv_icmp_le (tgt := 35) X.1 X.2.1 dX6_shift_30 (by decide) (fun c10 => ?_) (fun c10 => ?_)
        · have hF := hp_ifp (c10) hF
          refine lv_aload_n X.1 X.2.1 dX6_shift_35 rfl (lv_at hl 0 rfl) ?_
          refine lv_iload_n X.1 X.2.1 dX6_shift_36 rfl (lv_at hl 2 rfl) ?_
          obtain ⟨h12, e11, hF⟩ := hp_b hF
          refine hp_cv Y (hp_runV X Y (ci := 6) (As := [.int x2]) (n := 1) (T := TX6) (N := 14) (mX6_toX l G e11) rfl (oX6_toX e11) gX6_shift_X6_toX rfl rfl rfl ndX6_toX ⟨Nat.le_of_ble_eq_true rfl, Nat.le_of_ble_eq_true rfl⟩ rfl hl.1 rfl (Nat.le_of_ble_eq_true rfl) dX6_shift_37 ⟨Nat.zero_le _, Nat.zero_le _⟩) (fun H locs Y => ?_)
          refine lv_iconst (v := 0) X.1 X.2.1 dX6_shift_40 (by decide) ?_
          refine lv_istore (lv' := [(4, .int (0 : Int32)), (0, .ref x0), (1, .int x1), (2, .int x2), (3, .int x3)]) X.1 X.2.1 dX6_shift_41 hl (by decide) rfl (fun ls hl => ?_)
          exact wX6_shift_43 X  hp_n Y (lv_sub hl [1, 2, 3, 4, 0] rfl) hF
        · have hF := hp_ifn (c10) hF
          refine lv_iconst (v := -1) X.1 X.2.1 dX6_shift_33 (by decide) ?_
          cases hF
          exact hp_ri X Y rfl rfl dX6_shift_34

/-! WholeNumbersModel.power -/
def rmX6_power : Room := { frames := 4, cells := 0, slots := 0, locals := 93 }
def bX6_power_72 (k55 : Int32 → Int32 → hp_H → Option (Int32 × hp_H)) (x0 : Nat) (x1 : Int32) (x2 : Int32) (x3 : Int32) (x4 : Int32) (x5 : Int32) : Nat → Int32 → hp_H → Option (Int32 × hp_H)
  | 0, _, _ => none
  | n + 1, x6, h =>
  (hp_gi h x0 6 10).bind fun v1 =>
  if v1 ≤ x6 then (
    (fX6_multiply x0 h).bind fun h5 =>
    (hp_gr h5 x0 6 2).bind fun v6 =>
    (hp_ai h5 0 v6 x2).bind fun v8 =>
    (some (x4 * v8)).bind fun v10 =>
    (hp_gr h5 x0 6 7).bind fun v12 =>
    (hp_gi h5 x0 6 10).bind fun v14 =>
    (fX6_isWithin x0 v12 v14 h5).bind fun v17 =>
    if v17 = 0 then (
      some ((-1 : Int32), h5))
    else (
      (some (x5 + (1 : Int32))).bind fun v19 =>
      k55 v10 v19 h5))
  else (
    (hp_gr h x0 6 5).bind fun v21 =>
    (hp_gr h x0 6 7).bind fun v23 =>
    (hp_ai h 0 v23 x6).bind fun v25 =>
    (hp_si h 0 v21 x6 v25).bind fun h27 =>
    (some (x6 + (1 : Int32))).bind fun v29 =>
    bX6_power_72 k55 x0 x1 x2 x3 x4 x5 n v29 h27)
def bX6_power_55  (x0 : Nat) (x1 : Int32) (x2 : Int32) (x3 : Int32) : Nat → Int32 → Int32 → hp_H → Option (Int32 × hp_H)
  | 0, _, _, _ => none
  | n + 1, x4, x5, h =>
  if x3 ≤ x5 then (
    (hp_gr h x0 6 7).bind fun v2 =>
    (hp_gi h x0 6 10).bind fun v4 =>
    (fX6_put x0 x1 v2 v4 x4 h).bind fun (v8, h7) =>
    some (v8, h7))
  else (
    (hp_gi h x0 6 10).bind fun v10 =>
    (hp_pv h x0 6 8 (.int v10)).bind fun h12 =>
    bX6_power_72 (bX6_power_55 x0 x1 x2 x3 n) x0 x1 x2 x3 x4 x5 hp_n (0 : Int32) h12)
def fX6_power (x0 : Nat) (x1 : Int32) (x2 : Int32) (x3 : Int32) (h : hp_H) : Option (Int32 × hp_H) :=
  if hp_o h x0 6 = true then
  (hp_pv h x0 6 11 (.int (0 : Int32))).bind fun h1 =>
  (fX6_isRegister x1).bind fun v4 =>
  if v4 = 0 then (
    some ((-1 : Int32), h1))
  else (
    (fX6_isRegister x2).bind fun v7 =>
    if v7 = 0 then (
      some ((-1 : Int32), h1))
    else (
      if x3 < 0 then (
        some ((-1 : Int32), h1))
      else (
        if x3 ≤ (4096 : Int32) then (
          (fX6_toY x0 x2 h1).bind fun h12 =>
          (hp_gr h12 x0 6 7).bind fun v13 =>
          (hp_si h12 0 v13 (0 : Int32) (1 : Int32)).bind fun h15 =>
          (hp_pv h15 x0 6 10 (.int (1 : Int32))).bind fun h17 =>
          bX6_power_55 x0 x1 x2 x3 hp_n (1 : Int32) (0 : Int32) h17)
        else (
          some ((-1 : Int32), h1)))))
  else none
theorem inX6_power_X6 : ∀ w ∈ wsX60, w ∈ wsX6_power := by decide +kernel
theorem lkX6_power_f89 : Cond.fieldLink RX6 89 (TX6 10).1 (TX6 10).2.1 (TX6 10).2.2.1 ∈ wsX6_power := by decide +kernel
theorem lkX6_power_f16 : Cond.fieldLink RX6 16 (TX6 2).1 (TX6 2).2.1 (TX6 2).2.2.1 ∈ wsX6_power := by decide +kernel
theorem lkX6_power_f28 : Cond.fieldLink RX6 28 (TX6 7).1 (TX6 7).2.1 (TX6 7).2.2.1 ∈ wsX6_power := by decide +kernel
theorem lkX6_power_f22 : Cond.fieldLink RX6 22 (TX6 5).1 (TX6 5).2.1 (TX6 5).2.2.1 ∈ wsX6_power := by decide +kernel
theorem lkX6_power_f34 : Cond.fieldLink RX6 34 (TX6 8).1 (TX6 8).2.1 (TX6 8).2.2.1 ∈ wsX6_power := by decide +kernel
theorem lkX6_power_f45 : Cond.fieldLink RX6 45 (TX6 11).1 (TX6 11).2.1 (TX6 11).2.2.1 ∈ wsX6_power := by decide +kernel
theorem ndX6_power : yX6_power.cls ≠ "java/lang/invoke/MethodHandle" ∧ yX6_power.cls ≠ "java/lang/invoke/VarHandle" ∧ (parseMethodDescriptor yX6_power.desc).map (fun d => d.parameters.length) = some 3 := by decide +kernel
set_option maxRecDepth 100000 in
set_option maxHeartbeats 4000000 in
theorem wX6_power_72 {p : Program} {l : Launch} {e : Env} {s : State} {m : MethodId} {args : Array Value} {below : List Frame} {meth : Method} {c : Code} {G : hp_G} {h0 h' : hp_H} {r : Int32} (X : hp_X p s m args meth c cX6_power 7 RX6 wsX6_power (some .int) G) {k55 : Int32 → Int32 → hp_H → Option (Int32 × hp_H)} {x0 : Nat} {x1 : Int32} {x2 : Int32} {x3 : Int32} {x4 : Int32} {x5 : Int32}  (hk55 : ∀ (y4 : Int32) (y5 : Int32) (h : hp_H) (H : Heap) (locs : List Loc) (ls : Array Slot), hp_Y G h h0 s H locs → lv_has ls 7 [(0, .ref x0), (1, .int x1), (2, .int x2), (3, .int x3), (4, .int y4), (5, .int y5)] → k55 y4 y5 h = some (r, h') → W p l e rmX6_power s m args below meth c H locs 0 0 (MQ below (va_Qi (fun r' u => r' = r ∧ u = h') (hp_B G h0) (hp_A h0)) args s 0 0 (hp_A h0)) (F0 m 55 ls [])) : ∀ (n : Nat) {x6 : Int32} {h : hp_H} {H : Heap} {locs : List Loc} {ls : Array Slot} (Y : hp_Y G h h0 s H locs) (hl : lv_has ls 7 [(0, .ref x0), (1, .int x1), (2, .int x2), (3, .int x3), (4, .int x4), (5, .int x5), (6, .int x6)]) (hF : bX6_power_72 k55 x0 x1 x2 x3 x4 x5 n x6 h = some (r, h')), W p l e rmX6_power s m args below meth c H locs 0 0 (MQ below (va_Qi (fun r' u => r' = r ∧ u = h') (hp_B G h0) (hp_A h0)) args s 0 0 (hp_A h0)) (F0 m 72 ls []) := by
  intro n
  induction n with
  | zero =>
    intro x6 h H locs ls Y hl hF
    exact absurd (show none = some _ from hF) (by simp)
  | succ n ih =>
    intro x6 h H locs ls Y hl hF
    rw [bX6_power_72] at hF
    refine lv_iload X.1 X.2.1 dX6_power_72 (lv_at hl 6 rfl) ?_
    refine lv_aload_n X.1 X.2.1 dX6_power_74 rfl (lv_at hl 0 rfl) ?_
    obtain ⟨v1, e2, hF⟩ := hp_b hF
    refine hp_geti X Y (C := RX6) (T := TX6) (N := 14) (ci := 6) (k := 10) rfl inX6_power_X6 (by decide) lkX6_power_f89 e2 dX6_power_75 ?_
    refine lv_icmp_ge (tgt := 101) X.1 X.2.1 dX6_power_78 (by decide) (fun c3 => ?_) (fun c3 => ?_)
    · have hF := hp_ifp (c3) hF
      refine lv_aload_n X.1 X.2.1 dX6_power_101 rfl (lv_at hl 0 rfl) ?_
      obtain ⟨h5, e4, hF⟩ := hp_b hF
      refine hp_cv Y (hp_runV X Y (ci := 6) (As := []) (n := 0) (T := TX6) (N := 14) (mX6_multiply l G e4) rfl (oX6_multiply e4) gX6_power_X6_multiply rfl rfl rfl ndX6_multiply ⟨Nat.le_of_ble_eq_true rfl, Nat.le_of_ble_eq_true rfl⟩ rfl hl.1 rfl (Nat.le_of_ble_eq_true rfl) dX6_power_102 ⟨Nat.zero_le _, Nat.zero_le _⟩) (fun H locs Y => ?_)
      refine lv_iload X.1 X.2.1 dX6_power_105 (lv_at hl 4 rfl) ?_
      refine lv_aload_n X.1 X.2.1 dX6_power_107 rfl (lv_at hl 0 rfl) ?_
      obtain ⟨v6, e7, hF⟩ := hp_b hF
      refine hp_getr X Y (C := RX6) (T := TX6) (N := 14) (ci := 6) (k := 2) rfl inX6_power_X6 (by decide) lkX6_power_f16 e7 dX6_power_108 ?_
      refine lv_iload_n X.1 X.2.1 dX6_power_111 rfl (lv_at hl 2 rfl) ?_
      obtain ⟨v8, e9, hF⟩ := hp_b hF
      refine hp_iald X Y e9 dX6_power_112 ?_
      refine lv_imul X.1 X.2.1 dX6_power_113 ?_
      obtain ⟨v10, e11, hF⟩ := hp_b hF
      refine hp_ti (Option.some.inj e11) ?_
      refine lv_istore (lv' := [(4, .int v10), (0, .ref x0), (1, .int x1), (2, .int x2), (3, .int x3), (5, .int x5), (6, .int x6)]) X.1 X.2.1 dX6_power_114 hl (by decide) rfl (fun ls hl => ?_)
      refine lv_aload_n X.1 X.2.1 dX6_power_116 rfl (lv_at hl 1 rfl) ?_
      refine lv_aload_n X.1 X.2.1 dX6_power_117 rfl (lv_at hl 1 rfl) ?_
      obtain ⟨v12, e13, hF⟩ := hp_b hF
      refine hp_getr X Y (C := RX6) (T := TX6) (N := 14) (ci := 6) (k := 7) rfl inX6_power_X6 (by decide) lkX6_power_f28 e13 dX6_power_118 ?_
      refine lv_aload_n X.1 X.2.1 dX6_power_121 rfl (lv_at hl 1 rfl) ?_
      obtain ⟨v14, e15, hF⟩ := hp_b hF
      refine hp_geti X Y (C := RX6) (T := TX6) (N := 14) (ci := 6) (k := 10) rfl inX6_power_X6 (by decide) lkX6_power_f89 e15 dX6_power_122 ?_
      obtain ⟨v17, e16, hF⟩ := hp_b hF
      refine hp_ci Y (hp_runV X Y (ci := 6) (As := [.ref v12, .int v14]) (n := 2) (T := TX6) (N := 14) (mX6_isWithin l G e16) rfl (oX6_isWithin e16) gX6_power_X6_isWithin rfl rfl rfl ndX6_isWithin ⟨Nat.le_of_ble_eq_true rfl, Nat.le_of_ble_eq_true rfl⟩ rfl hl.1 rfl (Nat.le_of_ble_eq_true rfl) dX6_power_125 ⟨Nat.zero_le _, Nat.zero_le _⟩) (fun H locs Y => ?_)
      refine lv_if_ne (tgt := 133) X.1 X.2.1 dX6_power_128 (by decide) (fun c18 => ?_) (fun c18 => ?_)
      · have hF := hp_ifn (c18) hF
        obtain ⟨v19, e20, hF⟩ := hp_b hF
        refine lv_iinc (v := v19) (lv' := [(5, .int v19), (4, .int v10), (0, .ref x0), (1, .int x1), (2, .int x2), (3, .int x3), (6, .int x6)]) X.1 X.2.1 dX6_power_133 hl (k := 5) rfl (Option.some.inj e20) (by decide) rfl (fun ls hl => ?_)
        refine lv_goto (tgt := 55) X.1 X.2.1 dX6_power_136 (by decide) ?_
        exact hk55 _ _ _  _ _ _ Y (lv_sub hl [2, 3, 4, 5, 1, 0] rfl) hF
      · have hF := hp_ifp (c18) hF
        refine lv_iconst (v := -1) X.1 X.2.1 dX6_power_131 (by decide) ?_
        cases hF
        exact hp_ri X Y rfl rfl dX6_power_132
    · have hF := hp_ifn (c3) hF
      refine lv_aload_n X.1 X.2.1 dX6_power_81 rfl (lv_at hl 0 rfl) ?_
      obtain ⟨v21, e22, hF⟩ := hp_b hF
      refine hp_getr X Y (C := RX6) (T := TX6) (N := 14) (ci := 6) (k := 5) rfl inX6_power_X6 (by decide) lkX6_power_f22 e22 dX6_power_82 ?_
      refine lv_iload X.1 X.2.1 dX6_power_85 (lv_at hl 6 rfl) ?_
      refine lv_aload_n X.1 X.2.1 dX6_power_87 rfl (lv_at hl 0 rfl) ?_
      obtain ⟨v23, e24, hF⟩ := hp_b hF
      refine hp_getr X Y (C := RX6) (T := TX6) (N := 14) (ci := 6) (k := 7) rfl inX6_power_X6 (by decide) lkX6_power_f28 e24 dX6_power_88 ?_
      refine lv_iload X.1 X.2.1 dX6_power_91 (lv_at hl 6 rfl) ?_
      obtain ⟨v25, e26, hF⟩ := hp_b hF
      refine hp_iald X Y e26 dX6_power_93 ?_
      obtain ⟨h27, e28, hF⟩ := hp_b hF
      refine hp_iast X Y e28 dX6_power_94 (fun H locs Y => ?_)
      obtain ⟨v29, e30, hF⟩ := hp_b hF
      refine lv_iinc (v := v29) (lv' := [(6, .int v29), (0, .ref x0), (1, .int x1), (2, .int x2), (3, .int x3), (4, .int x4), (5, .int x5)]) X.1 X.2.1 dX6_power_95 hl (k := 6) rfl (Option.some.inj e30) (by decide) rfl (fun ls hl => ?_)
      refine lv_goto (tgt := 72) X.1 X.2.1 dX6_power_98 (by decide) ?_
      exact ih Y (lv_sub hl [1, 2, 3, 4, 5, 6, 0] rfl) hF
set_option maxRecDepth 100000 in
set_option maxHeartbeats 4000000 in
theorem wX6_power_55 {p : Program} {l : Launch} {e : Env} {s : State} {m : MethodId} {args : Array Value} {below : List Frame} {meth : Method} {c : Code} {G : hp_G} {h0 h' : hp_H} {r : Int32} (X : hp_X p s m args meth c cX6_power 7 RX6 wsX6_power (some .int) G)  {x0 : Nat} {x1 : Int32} {x2 : Int32} {x3 : Int32}   : ∀ (n : Nat) {x4 : Int32} {x5 : Int32} {h : hp_H} {H : Heap} {locs : List Loc} {ls : Array Slot} (Y : hp_Y G h h0 s H locs) (hl : lv_has ls 7 [(0, .ref x0), (1, .int x1), (2, .int x2), (3, .int x3), (4, .int x4), (5, .int x5)]) (hF : bX6_power_55 x0 x1 x2 x3 n x4 x5 h = some (r, h')), W p l e rmX6_power s m args below meth c H locs 0 0 (MQ below (va_Qi (fun r' u => r' = r ∧ u = h') (hp_B G h0) (hp_A h0)) args s 0 0 (hp_A h0)) (F0 m 55 ls []) := by
  intro n
  induction n with
  | zero =>
    intro x4 x5 h H locs ls Y hl hF
    exact absurd (show none = some _ from hF) (by simp)
  | succ n ih =>
    intro x4 x5 h H locs ls Y hl hF
    rw [bX6_power_55] at hF
    refine lv_iload X.1 X.2.1 dX6_power_55 (lv_at hl 5 rfl) ?_
    refine lv_iload_n X.1 X.2.1 dX6_power_57 rfl (lv_at hl 3 rfl) ?_
    refine lv_icmp_ge (tgt := 139) X.1 X.2.1 dX6_power_58 (by decide) (fun c1 => ?_) (fun c1 => ?_)
    · have hF := hp_ifp (c1) hF
      refine lv_aload_n X.1 X.2.1 dX6_power_139 rfl (lv_at hl 0 rfl) ?_
      refine lv_iload_n X.1 X.2.1 dX6_power_140 rfl (lv_at hl 1 rfl) ?_
      refine lv_aload_n X.1 X.2.1 dX6_power_141 rfl (lv_at hl 0 rfl) ?_
      obtain ⟨v2, e3, hF⟩ := hp_b hF
      refine hp_getr X Y (C := RX6) (T := TX6) (N := 14) (ci := 6) (k := 7) rfl inX6_power_X6 (by decide) lkX6_power_f28 e3 dX6_power_142 ?_
      refine lv_aload_n X.1 X.2.1 dX6_power_145 rfl (lv_at hl 0 rfl) ?_
      obtain ⟨v4, e5, hF⟩ := hp_b hF
      refine hp_geti X Y (C := RX6) (T := TX6) (N := 14) (ci := 6) (k := 10) rfl inX6_power_X6 (by decide) lkX6_power_f89 e5 dX6_power_146 ?_
      refine lv_iload X.1 X.2.1 dX6_power_149 (lv_at hl 4 rfl) ?_
      obtain ⟨⟨v8, h7⟩, e6, hF⟩ := hp_b hF
      refine hp_ci Y (hp_runV X Y (ci := 6) (As := [.int x1, .ref v2, .int v4, .int x4]) (n := 4) (T := TX6) (N := 14) (mX6_put l G e6) rfl (oX6_put e6) gX6_power_X6_put rfl rfl rfl ndX6_put ⟨Nat.le_of_ble_eq_true rfl, Nat.le_of_ble_eq_true rfl⟩ rfl hl.1 rfl (Nat.le_of_ble_eq_true rfl) dX6_power_151 ⟨Nat.zero_le _, Nat.zero_le _⟩) (fun H locs Y => ?_)
      cases hF
      exact hp_ri X Y rfl rfl dX6_power_154
    · have hF := hp_ifn (c1) hF
      refine lv_aload_n X.1 X.2.1 dX6_power_61 rfl (lv_at hl 0 rfl) ?_
      refine lv_aload_n X.1 X.2.1 dX6_power_62 rfl (lv_at hl 0 rfl) ?_
      obtain ⟨v10, e11, hF⟩ := hp_b hF
      refine hp_geti X Y (C := RX6) (T := TX6) (N := 14) (ci := 6) (k := 10) rfl inX6_power_X6 (by decide) lkX6_power_f89 e11 dX6_power_63 ?_
      obtain ⟨h12, e13, hF⟩ := hp_b hF
      refine hp_put X Y (C := RX6) (T := TX6) (N := 14) (ci := 6) (k := 8) (ty0 := tyX6) rfl inX6_power_X6 tyX6_ok nmX6 (by decide) lkX6_power_f34 rfl rfl rfl e13 dX6_power_66 (fun H locs Y => ?_)
      refine lv_iconst (v := 0) X.1 X.2.1 dX6_power_69 (by decide) ?_
      refine lv_istore (lv' := [(6, .int (0 : Int32)), (0, .ref x0), (1, .int x1), (2, .int x2), (3, .int x3), (4, .int x4), (5, .int x5)]) X.1 X.2.1 dX6_power_70 hl (by decide) rfl (fun ls hl => ?_)
      exact wX6_power_72 X (fun _ _ _ _ _ _ Y hl hF => ih Y hl hF) hp_n Y (lv_sub hl [1, 2, 3, 4, 5, 6, 0] rfl) hF
theorem oX6_power {x0 : Nat} {x1 : Int32} {x2 : Int32} {x3 : Int32} {h h' : hp_H} {r : Int32} (hF : fX6_power x0 x1 x2 x3 h = some (r, h')) : hp_o h x0 6 = true := by
  unfold fX6_power at hF
  exact (hp_ift hF).1
set_option maxRecDepth 100000 in
set_option maxHeartbeats 4000000 in
theorem mX6_power (l : Launch) (G : hp_G) {x0 : Nat} {x1 : Int32} {x2 : Int32} {x3 : Int32} {h h' : hp_H} {r : Int32} (hF : fX6_power x0 x1 x2 x3 h = some (r, h')) : Met l yX6_power wsX6_power rmX6_power (va_Pc [.ref x0, .int x1, .int x2, .int x3] (hp_S G h)) (va_Qi (fun r' u => r' = r ∧ u = h') (hp_B G h) (hp_A h)) 0 0 (hp_A h) := by
  refine hp_met (cc := cX6_power) (nL := 7) (ret := (some .int)) (by decide) rfl ?_
  intro p e s m below meth c X Y
  have hl := lv_entry ([.ref x0, .int x1, .int x2, .int x3]) (n := 7) (Nat.le_of_ble_eq_true rfl)
  rw [lg_entry_eq]
  generalize (lg_sl ([.ref x0, .int x1, .int x2, .int x3]) ++ List.replicate (7 - (lg_sl ([.ref x0, .int x1, .int x2, .int x3])).length) Slot.unset).toArray = ls at hl ⊢
  have hl : lv_has ls 7 [(0, .ref x0), (1, .int x1), (2, .int x2), (3, .int x3)] := hl
  unfold fX6_power at hF
  obtain ⟨ho, hF⟩ := hp_ift hF
  refine lv_aload_n X.1 X.2.1 dX6_power_0 rfl (lv_at hl 0 rfl) ?_
  refine lv_iconst (v := 0) X.1 X.2.1 dX6_power_1 (by decide) ?_
  obtain ⟨h1, e2, hF⟩ := hp_b hF
  refine hp_put X Y (C := RX6) (T := TX6) (N := 14) (ci := 6) (k := 11) (ty0 := tyX6) rfl inX6_power_X6 tyX6_ok nmX6 (by decide) lkX6_power_f45 rfl rfl rfl e2 dX6_power_2 (fun H locs Y => ?_)
  refine lv_iload_n X.1 X.2.1 dX6_power_5 rfl (lv_at hl 1 rfl) ?_
  obtain ⟨v4, e3, hF⟩ := hp_b hF
  refine hp_ci Y (hp_runS X Y (As := [.int x1]) (n := 1) (mX6_isRegister l G e3) gX6_power_X6_isRegister rfl rfl rfl ndX6_isRegister ⟨Nat.le_of_ble_eq_true rfl, Nat.le_of_ble_eq_true rfl⟩ rfl hl.1 rfl (Nat.le_of_ble_eq_true rfl) dX6_power_6 ⟨Nat.zero_le _, Nat.zero_le _⟩) (fun H locs Y => ?_)
  refine lv_if_eq (tgt := 30) X.1 X.2.1 dX6_power_9 (by decide) (fun c5 => ?_) (fun c5 => ?_)
  · have hF := hp_ifp (c5) hF
    refine lv_iconst (v := -1) X.1 X.2.1 dX6_power_30 (by decide) ?_
    cases hF
    exact hp_ri X Y rfl rfl dX6_power_31
  · have hF := hp_ifn (c5) hF
    refine lv_iload_n X.1 X.2.1 dX6_power_12 rfl (lv_at hl 2 rfl) ?_
    obtain ⟨v7, e6, hF⟩ := hp_b hF
    refine hp_ci Y (hp_runS X Y (As := [.int x2]) (n := 1) (mX6_isRegister l G e6) gX6_power_X6_isRegister rfl rfl rfl ndX6_isRegister ⟨Nat.le_of_ble_eq_true rfl, Nat.le_of_ble_eq_true rfl⟩ rfl hl.1 rfl (Nat.le_of_ble_eq_true rfl) dX6_power_13 ⟨Nat.zero_le _, Nat.zero_le _⟩) (fun H locs Y => ?_)
    refine lv_if_eq (tgt := 30) X.1 X.2.1 dX6_power_16 (by decide) (fun c8 => ?_) (fun c8 => ?_)
    · have hF := hp_ifp (c8) hF
      refine lv_iconst (v := -1) X.1 X.2.1 dX6_power_30 (by decide) ?_
      cases hF
      exact hp_ri X Y rfl rfl dX6_power_31
    · have hF := hp_ifn (c8) hF
      refine lv_iload_n X.1 X.2.1 dX6_power_19 rfl (lv_at hl 3 rfl) ?_
      refine lv_if_lt (tgt := 30) X.1 X.2.1 dX6_power_20 (by decide) (fun c9 => ?_) (fun c9 => ?_)
      · have hF := hp_ifp (c9) hF
        refine lv_iconst (v := -1) X.1 X.2.1 dX6_power_30 (by decide) ?_
        cases hF
        exact hp_ri X Y rfl rfl dX6_power_31
      · have hF := hp_ifn (c9) hF
        refine lv_iload_n X.1 X.2.1 dX6_power_23 rfl (lv_at hl 3 rfl) ?_
        refine lv_sipush (v := 4096) X.1 X.2.1 dX6_power_24 (by decide) ?_
        refine lv_icmp_le (tgt := 32) X.1 X.2.1 dX6_power_27 (by decide) (fun c10 => ?_) (fun c10 => ?_)
        · have hF := hp_ifp (c10) hF
          refine lv_aload_n X.1 X.2.1 dX6_power_32 rfl (lv_at hl 0 rfl) ?_
          refine lv_iload_n X.1 X.2.1 dX6_power_33 rfl (lv_at hl 2 rfl) ?_
          obtain ⟨h12, e11, hF⟩ := hp_b hF
          refine hp_cv Y (hp_runV X Y (ci := 6) (As := [.int x2]) (n := 1) (T := TX6) (N := 14) (mX6_toY l G e11) rfl (oX6_toY e11) gX6_power_X6_toY rfl rfl rfl ndX6_toY ⟨Nat.le_of_ble_eq_true rfl, Nat.le_of_ble_eq_true rfl⟩ rfl hl.1 rfl (Nat.le_of_ble_eq_true rfl) dX6_power_34 ⟨Nat.zero_le _, Nat.zero_le _⟩) (fun H locs Y => ?_)
          refine lv_aload_n X.1 X.2.1 dX6_power_37 rfl (lv_at hl 0 rfl) ?_
          obtain ⟨v13, e14, hF⟩ := hp_b hF
          refine hp_getr X Y (C := RX6) (T := TX6) (N := 14) (ci := 6) (k := 7) rfl inX6_power_X6 (by decide) lkX6_power_f28 e14 dX6_power_38 ?_
          refine lv_iconst (v := 0) X.1 X.2.1 dX6_power_41 (by decide) ?_
          refine lv_iconst (v := 1) X.1 X.2.1 dX6_power_42 (by decide) ?_
          obtain ⟨h15, e16, hF⟩ := hp_b hF
          refine hp_iast X Y e16 dX6_power_43 (fun H locs Y => ?_)
          refine lv_aload_n X.1 X.2.1 dX6_power_44 rfl (lv_at hl 0 rfl) ?_
          refine lv_iconst (v := 1) X.1 X.2.1 dX6_power_45 (by decide) ?_
          obtain ⟨h17, e18, hF⟩ := hp_b hF
          refine hp_put X Y (C := RX6) (T := TX6) (N := 14) (ci := 6) (k := 10) (ty0 := tyX6) rfl inX6_power_X6 tyX6_ok nmX6 (by decide) lkX6_power_f89 rfl rfl rfl e18 dX6_power_46 (fun H locs Y => ?_)
          refine lv_iconst (v := 1) X.1 X.2.1 dX6_power_49 (by decide) ?_
          refine lv_istore (lv' := [(4, .int (1 : Int32)), (0, .ref x0), (1, .int x1), (2, .int x2), (3, .int x3)]) X.1 X.2.1 dX6_power_50 hl (by decide) rfl (fun ls hl => ?_)
          refine lv_iconst (v := 0) X.1 X.2.1 dX6_power_52 (by decide) ?_
          refine lv_istore (lv' := [(5, .int (0 : Int32)), (4, .int (1 : Int32)), (0, .ref x0), (1, .int x1), (2, .int x2), (3, .int x3)]) X.1 X.2.1 dX6_power_53 hl (by decide) rfl (fun ls hl => ?_)
          exact wX6_power_55 X  hp_n Y (lv_sub hl [2, 3, 4, 5, 1, 0] rfl) hF
        · have hF := hp_ifn (c10) hF
          refine lv_iconst (v := -1) X.1 X.2.1 dX6_power_30 (by decide) ?_
          cases hF
          exact hp_ri X Y rfl rfl dX6_power_31

/-! WholeNumbersModel.compare -/
def rmX6_compare : Room := { frames := 1, cells := 0, slots := 0, locals := 24 }
def fX6_compare (x0 : Nat) (x1 : Int32) (x2 : Int32) (h : hp_H) : Option (Int32 × hp_H) :=
  if hp_o h x0 6 = true then
  (hp_pv h x0 6 11 (.int (0 : Int32))).bind fun h1 =>
  (fX6_isRegister x1).bind fun v4 =>
  if v4 = 0 then (
    some ((2 : Int32), h1))
  else (
    (fX6_isRegister x2).bind fun v7 =>
    if v7 = 0 then (
      some ((2 : Int32), h1))
    else (
      (hp_gr h1 x0 6 2).bind fun v9 =>
      (hp_ai h1 0 v9 x1).bind fun v11 =>
      (hp_gr h1 x0 6 2).bind fun v13 =>
      (hp_ai h1 0 v13 x2).bind fun v15 =>
      if v11 = v15 then (
        (fX6_toX x0 x1 h1).bind fun h19 =>
        (fX6_toY x0 x2 h19).bind fun h21 =>
        (hp_gr h21 x0 6 5).bind fun v22 =>
        (hp_gi h21 x0 6 8).bind fun v24 =>
        (hp_gr h21 x0 6 6).bind fun v26 =>
        (hp_gi h21 x0 6 9).bind fun v28 =>
        (fX6_compareRows v22 v24 v26 v28 h21).bind fun v31 =>
        (hp_gr h21 x0 6 2).bind fun v32 =>
        (hp_ai h21 0 v32 x1).bind fun v34 =>
        if 0 ≤ v34 then (
          some (v31, h21))
        else (
          some (-v31, h21)))
      else (
        (hp_gr h1 x0 6 2).bind fun v37 =>
        (hp_ai h1 0 v37 x1).bind fun v39 =>
        (hp_gr h1 x0 6 2).bind fun v41 =>
        (hp_ai h1 0 v41 x2).bind fun v43 =>
        if v43 ≤ v39 then (
          some ((1 : Int32), h1))
        else (
          some ((-1 : Int32), h1)))))
  else none
theorem inX6_compare_X6 : ∀ w ∈ wsX60, w ∈ wsX6_compare := by decide +kernel
theorem lkX6_compare_f45 : Cond.fieldLink RX6 45 (TX6 11).1 (TX6 11).2.1 (TX6 11).2.2.1 ∈ wsX6_compare := by decide +kernel
theorem lkX6_compare_f16 : Cond.fieldLink RX6 16 (TX6 2).1 (TX6 2).2.1 (TX6 2).2.2.1 ∈ wsX6_compare := by decide +kernel
theorem lkX6_compare_f22 : Cond.fieldLink RX6 22 (TX6 5).1 (TX6 5).2.1 (TX6 5).2.2.1 ∈ wsX6_compare := by decide +kernel
theorem lkX6_compare_f34 : Cond.fieldLink RX6 34 (TX6 8).1 (TX6 8).2.1 (TX6 8).2.2.1 ∈ wsX6_compare := by decide +kernel
theorem lkX6_compare_f25 : Cond.fieldLink RX6 25 (TX6 6).1 (TX6 6).2.1 (TX6 6).2.2.1 ∈ wsX6_compare := by decide +kernel
theorem lkX6_compare_f55 : Cond.fieldLink RX6 55 (TX6 9).1 (TX6 9).2.1 (TX6 9).2.2.1 ∈ wsX6_compare := by decide +kernel
theorem ndX6_compare : yX6_compare.cls ≠ "java/lang/invoke/MethodHandle" ∧ yX6_compare.cls ≠ "java/lang/invoke/VarHandle" ∧ (parseMethodDescriptor yX6_compare.desc).map (fun d => d.parameters.length) = some 2 := by decide +kernel
theorem oX6_compare {x0 : Nat} {x1 : Int32} {x2 : Int32} {h h' : hp_H} {r : Int32} (hF : fX6_compare x0 x1 x2 h = some (r, h')) : hp_o h x0 6 = true := by
  unfold fX6_compare at hF
  exact (hp_ift hF).1
set_option maxRecDepth 100000 in
set_option maxHeartbeats 4000000 in
theorem mX6_compare (l : Launch) (G : hp_G) {x0 : Nat} {x1 : Int32} {x2 : Int32} {h h' : hp_H} {r : Int32} (hF : fX6_compare x0 x1 x2 h = some (r, h')) : Met l yX6_compare wsX6_compare rmX6_compare (va_Pc [.ref x0, .int x1, .int x2] (hp_S G h)) (va_Qi (fun r' u => r' = r ∧ u = h') (hp_B G h) (hp_A h)) 0 0 (hp_A h) := by
  refine hp_met (cc := cX6_compare) (nL := 4) (ret := (some .int)) (by decide) rfl ?_
  intro p e s m below meth c X Y
  have hl := lv_entry ([.ref x0, .int x1, .int x2]) (n := 4) (Nat.le_of_ble_eq_true rfl)
  rw [lg_entry_eq]
  generalize (lg_sl ([.ref x0, .int x1, .int x2]) ++ List.replicate (4 - (lg_sl ([.ref x0, .int x1, .int x2])).length) Slot.unset).toArray = ls at hl ⊢
  have hl : lv_has ls 4 [(0, .ref x0), (1, .int x1), (2, .int x2)] := hl
  unfold fX6_compare at hF
  obtain ⟨ho, hF⟩ := hp_ift hF
  refine lv_aload_n X.1 X.2.1 dX6_compare_0 rfl (lv_at hl 0 rfl) ?_
  refine lv_iconst (v := 0) X.1 X.2.1 dX6_compare_1 (by decide) ?_
  obtain ⟨h1, e2, hF⟩ := hp_b hF
  refine hp_put X Y (C := RX6) (T := TX6) (N := 14) (ci := 6) (k := 11) (ty0 := tyX6) rfl inX6_compare_X6 tyX6_ok nmX6 (by decide) lkX6_compare_f45 rfl rfl rfl e2 dX6_compare_2 (fun H locs Y => ?_)
  refine lv_iload_n X.1 X.2.1 dX6_compare_5 rfl (lv_at hl 1 rfl) ?_
  obtain ⟨v4, e3, hF⟩ := hp_b hF
  refine hp_ci Y (hp_runS X Y (As := [.int x1]) (n := 1) (mX6_isRegister l G e3) gX6_compare_X6_isRegister rfl rfl rfl ndX6_isRegister ⟨Nat.le_of_ble_eq_true rfl, Nat.le_of_ble_eq_true rfl⟩ rfl hl.1 rfl (Nat.le_of_ble_eq_true rfl) dX6_compare_6 ⟨Nat.zero_le _, Nat.zero_le _⟩) (fun H locs Y => ?_)
  refine lv_if_eq (tgt := 19) X.1 X.2.1 dX6_compare_9 (by decide) (fun c5 => ?_) (fun c5 => ?_)
  · have hF := hp_ifp (c5) hF
    refine lv_iconst (v := 2) X.1 X.2.1 dX6_compare_19 (by decide) ?_
    cases hF
    exact hp_ri X Y rfl rfl dX6_compare_20
  · have hF := hp_ifn (c5) hF
    refine lv_iload_n X.1 X.2.1 dX6_compare_12 rfl (lv_at hl 2 rfl) ?_
    obtain ⟨v7, e6, hF⟩ := hp_b hF
    refine hp_ci Y (hp_runS X Y (As := [.int x2]) (n := 1) (mX6_isRegister l G e6) gX6_compare_X6_isRegister rfl rfl rfl ndX6_isRegister ⟨Nat.le_of_ble_eq_true rfl, Nat.le_of_ble_eq_true rfl⟩ rfl hl.1 rfl (Nat.le_of_ble_eq_true rfl) dX6_compare_13 ⟨Nat.zero_le _, Nat.zero_le _⟩) (fun H locs Y => ?_)
    refine lv_if_ne (tgt := 21) X.1 X.2.1 dX6_compare_16 (by decide) (fun c8 => ?_) (fun c8 => ?_)
    · have hF := hp_ifn (c8) hF
      refine lv_aload_n X.1 X.2.1 dX6_compare_21 rfl (lv_at hl 0 rfl) ?_
      obtain ⟨v9, e10, hF⟩ := hp_b hF
      refine hp_getr X Y (C := RX6) (T := TX6) (N := 14) (ci := 6) (k := 2) rfl inX6_compare_X6 (by decide) lkX6_compare_f16 e10 dX6_compare_22 ?_
      refine lv_iload_n X.1 X.2.1 dX6_compare_25 rfl (lv_at hl 1 rfl) ?_
      obtain ⟨v11, e12, hF⟩ := hp_b hF
      refine hp_iald X Y e12 dX6_compare_26 ?_
      refine lv_aload_n X.1 X.2.1 dX6_compare_27 rfl (lv_at hl 0 rfl) ?_
      obtain ⟨v13, e14, hF⟩ := hp_b hF
      refine hp_getr X Y (C := RX6) (T := TX6) (N := 14) (ci := 6) (k := 2) rfl inX6_compare_X6 (by decide) lkX6_compare_f16 e14 dX6_compare_28 ?_
      refine lv_iload_n X.1 X.2.1 dX6_compare_31 rfl (lv_at hl 2 rfl) ?_
      obtain ⟨v15, e16, hF⟩ := hp_b hF
      refine hp_iald X Y e16 dX6_compare_32 ?_
      refine lv_icmp_eq (tgt := 57) X.1 X.2.1 dX6_compare_33 (by decide) (fun c17 => ?_) (fun c17 => ?_)
      · have hF := hp_ifp (c17) hF
        refine lv_aload_n X.1 X.2.1 dX6_compare_57 rfl (lv_at hl 0 rfl) ?_
        refine lv_iload_n X.1 X.2.1 dX6_compare_58 rfl (lv_at hl 1 rfl) ?_
        obtain ⟨h19, e18, hF⟩ := hp_b hF
        refine hp_cv Y (hp_runV X Y (ci := 6) (As := [.int x1]) (n := 1) (T := TX6) (N := 14) (mX6_toX l G e18) rfl (oX6_toX e18) gX6_compare_X6_toX rfl rfl rfl ndX6_toX ⟨Nat.le_of_ble_eq_true rfl, Nat.le_of_ble_eq_true rfl⟩ rfl hl.1 rfl (Nat.le_of_ble_eq_true rfl) dX6_compare_59 ⟨Nat.zero_le _, Nat.zero_le _⟩) (fun H locs Y => ?_)
        refine lv_aload_n X.1 X.2.1 dX6_compare_62 rfl (lv_at hl 0 rfl) ?_
        refine lv_iload_n X.1 X.2.1 dX6_compare_63 rfl (lv_at hl 2 rfl) ?_
        obtain ⟨h21, e20, hF⟩ := hp_b hF
        refine hp_cv Y (hp_runV X Y (ci := 6) (As := [.int x2]) (n := 1) (T := TX6) (N := 14) (mX6_toY l G e20) rfl (oX6_toY e20) gX6_compare_X6_toY rfl rfl rfl ndX6_toY ⟨Nat.le_of_ble_eq_true rfl, Nat.le_of_ble_eq_true rfl⟩ rfl hl.1 rfl (Nat.le_of_ble_eq_true rfl) dX6_compare_64 ⟨Nat.zero_le _, Nat.zero_le _⟩) (fun H locs Y => ?_)
        refine lv_aload_n X.1 X.2.1 dX6_compare_67 rfl (lv_at hl 0 rfl) ?_
        obtain ⟨v22, e23, hF⟩ := hp_b hF
        refine hp_getr X Y (C := RX6) (T := TX6) (N := 14) (ci := 6) (k := 5) rfl inX6_compare_X6 (by decide) lkX6_compare_f22 e23 dX6_compare_68 ?_
        refine lv_aload_n X.1 X.2.1 dX6_compare_71 rfl (lv_at hl 0 rfl) ?_
        obtain ⟨v24, e25, hF⟩ := hp_b hF
        refine hp_geti X Y (C := RX6) (T := TX6) (N := 14) (ci := 6) (k := 8) rfl inX6_compare_X6 (by decide) lkX6_compare_f34 e25 dX6_compare_72 ?_
        refine lv_aload_n X.1 X.2.1 dX6_compare_75 rfl (lv_at hl 0 rfl) ?_
        obtain ⟨v26, e27, hF⟩ := hp_b hF
        refine hp_getr X Y (C := RX6) (T := TX6) (N := 14) (ci := 6) (k := 6) rfl inX6_compare_X6 (by decide) lkX6_compare_f25 e27 dX6_compare_76 ?_
        refine lv_aload_n X.1 X.2.1 dX6_compare_79 rfl (lv_at hl 0 rfl) ?_
        obtain ⟨v28, e29, hF⟩ := hp_b hF
        refine hp_geti X Y (C := RX6) (T := TX6) (N := 14) (ci := 6) (k := 9) rfl inX6_compare_X6 (by decide) lkX6_compare_f55 e29 dX6_compare_80 ?_
        obtain ⟨v31, e30, hF⟩ := hp_b hF
        refine hp_ci Y (hp_runS X Y (As := [.ref v22, .int v24, .ref v26, .int v28]) (n := 4) (mX6_compareRows l G e30) gX6_compare_X6_compareRows rfl rfl rfl ndX6_compareRows ⟨Nat.le_of_ble_eq_true rfl, Nat.le_of_ble_eq_true rfl⟩ rfl hl.1 rfl (Nat.le_of_ble_eq_true rfl) dX6_compare_83 ⟨Nat.zero_le _, Nat.zero_le _⟩) (fun H locs Y => ?_)
        refine lv_istore_n (lv' := [(3, .int v31), (0, .ref x0), (1, .int x1), (2, .int x2)]) X.1 X.2.1 dX6_compare_86 rfl hl (by decide) rfl (fun ls hl => ?_)
        refine lv_aload_n X.1 X.2.1 dX6_compare_87 rfl (lv_at hl 1 rfl) ?_
        obtain ⟨v32, e33, hF⟩ := hp_b hF
        refine hp_getr X Y (C := RX6) (T := TX6) (N := 14) (ci := 6) (k := 2) rfl inX6_compare_X6 (by decide) lkX6_compare_f16 e33 dX6_compare_88 ?_
        refine lv_iload_n X.1 X.2.1 dX6_compare_91 rfl (lv_at hl 2 rfl) ?_
        obtain ⟨v34, e35, hF⟩ := hp_b hF
        refine hp_iald X Y e35 dX6_compare_92 ?_
        refine lv_if_ge (tgt := 101) X.1 X.2.1 dX6_compare_93 (by decide) (fun c36 => ?_) (fun c36 => ?_)
        · have hF := hp_ifp (c36) hF
          refine lv_iload_n X.1 X.2.1 dX6_compare_101 rfl (lv_at hl 0 rfl) ?_
          cases hF
          exact hp_ri X Y rfl rfl dX6_compare_102
        · have hF := hp_ifn (c36) hF
          refine lv_iload_n X.1 X.2.1 dX6_compare_96 rfl (lv_at hl 0 rfl) ?_
          refine lv_ineg X.1 X.2.1 dX6_compare_97 ?_
          refine lv_goto (tgt := 102) X.1 X.2.1 dX6_compare_98 (by decide) ?_
          cases hF
          exact hp_ri X Y rfl rfl dX6_compare_102
      · have hF := hp_ifn (c17) hF
        refine lv_aload_n X.1 X.2.1 dX6_compare_36 rfl (lv_at hl 0 rfl) ?_
        obtain ⟨v37, e38, hF⟩ := hp_b hF
        refine hp_getr X Y (C := RX6) (T := TX6) (N := 14) (ci := 6) (k := 2) rfl inX6_compare_X6 (by decide) lkX6_compare_f16 e38 dX6_compare_37 ?_
        refine lv_iload_n X.1 X.2.1 dX6_compare_40 rfl (lv_at hl 1 rfl) ?_
        obtain ⟨v39, e40, hF⟩ := hp_b hF
        refine hp_iald X Y e40 dX6_compare_41 ?_
        refine lv_aload_n X.1 X.2.1 dX6_compare_42 rfl (lv_at hl 0 rfl) ?_
        obtain ⟨v41, e42, hF⟩ := hp_b hF
        refine hp_getr X Y (C := RX6) (T := TX6) (N := 14) (ci := 6) (k := 2) rfl inX6_compare_X6 (by decide) lkX6_compare_f16 e42 dX6_compare_43 ?_
        refine lv_iload_n X.1 X.2.1 dX6_compare_46 rfl (lv_at hl 2 rfl) ?_
        obtain ⟨v43, e44, hF⟩ := hp_b hF
        refine hp_iald X Y e44 dX6_compare_47 ?_
        refine lv_icmp_ge (tgt := 55) X.1 X.2.1 dX6_compare_48 (by decide) (fun c45 => ?_) (fun c45 => ?_)
        · have hF := hp_ifp (c45) hF
          refine lv_iconst (v := 1) X.1 X.2.1 dX6_compare_55 (by decide) ?_
          cases hF
          exact hp_ri X Y rfl rfl dX6_compare_56
        · have hF := hp_ifn (c45) hF
          refine lv_iconst (v := -1) X.1 X.2.1 dX6_compare_51 (by decide) ?_
          refine lv_goto (tgt := 56) X.1 X.2.1 dX6_compare_52 (by decide) ?_
          cases hF
          exact hp_ri X Y rfl rfl dX6_compare_56
    · have hF := hp_ifp (c8) hF
      refine lv_iconst (v := 2) X.1 X.2.1 dX6_compare_19 (by decide) ?_
      cases hF
      exact hp_ri X Y rfl rfl dX6_compare_20

/-! WholeNumbersModel.sign -/
def rmX6_sign : Room := { frames := 1, cells := 0, slots := 0, locals := 20 }
def fX6_sign (x0 : Nat) (x1 : Int32) (h : hp_H) : Option (Int32 × hp_H) :=
  if hp_o h x0 6 = true then
  (hp_pv h x0 6 11 (.int (0 : Int32))).bind fun h1 =>
  (fX6_isRegister x1).bind fun v4 =>
  if v4 = 0 then (
    some ((2 : Int32), h1))
  else (
    (hp_gr h1 x0 6 2).bind fun v6 =>
    (hp_ai h1 0 v6 x1).bind fun v8 =>
    some (v8, h1))
  else none
theorem inX6_sign_X6 : ∀ w ∈ wsX60, w ∈ wsX6_sign := by decide +kernel
theorem lkX6_sign_f45 : Cond.fieldLink RX6 45 (TX6 11).1 (TX6 11).2.1 (TX6 11).2.2.1 ∈ wsX6_sign := by decide +kernel
theorem lkX6_sign_f16 : Cond.fieldLink RX6 16 (TX6 2).1 (TX6 2).2.1 (TX6 2).2.2.1 ∈ wsX6_sign := by decide +kernel
theorem ndX6_sign : yX6_sign.cls ≠ "java/lang/invoke/MethodHandle" ∧ yX6_sign.cls ≠ "java/lang/invoke/VarHandle" ∧ (parseMethodDescriptor yX6_sign.desc).map (fun d => d.parameters.length) = some 1 := by decide +kernel
theorem oX6_sign {x0 : Nat} {x1 : Int32} {h h' : hp_H} {r : Int32} (hF : fX6_sign x0 x1 h = some (r, h')) : hp_o h x0 6 = true := by
  unfold fX6_sign at hF
  exact (hp_ift hF).1
set_option maxRecDepth 100000 in
set_option maxHeartbeats 4000000 in
theorem mX6_sign (l : Launch) (G : hp_G) {x0 : Nat} {x1 : Int32} {h h' : hp_H} {r : Int32} (hF : fX6_sign x0 x1 h = some (r, h')) : Met l yX6_sign wsX6_sign rmX6_sign (va_Pc [.ref x0, .int x1] (hp_S G h)) (va_Qi (fun r' u => r' = r ∧ u = h') (hp_B G h) (hp_A h)) 0 0 (hp_A h) := by
  refine hp_met (cc := cX6_sign) (nL := 2) (ret := (some .int)) (by decide) rfl ?_
  intro p e s m below meth c X Y
  have hl := lv_entry ([.ref x0, .int x1]) (n := 2) (Nat.le_of_ble_eq_true rfl)
  rw [lg_entry_eq]
  generalize (lg_sl ([.ref x0, .int x1]) ++ List.replicate (2 - (lg_sl ([.ref x0, .int x1])).length) Slot.unset).toArray = ls at hl ⊢
  have hl : lv_has ls 2 [(0, .ref x0), (1, .int x1)] := hl
  unfold fX6_sign at hF
  obtain ⟨ho, hF⟩ := hp_ift hF
  refine lv_aload_n X.1 X.2.1 dX6_sign_0 rfl (lv_at hl 0 rfl) ?_
  refine lv_iconst (v := 0) X.1 X.2.1 dX6_sign_1 (by decide) ?_
  obtain ⟨h1, e2, hF⟩ := hp_b hF
  refine hp_put X Y (C := RX6) (T := TX6) (N := 14) (ci := 6) (k := 11) (ty0 := tyX6) rfl inX6_sign_X6 tyX6_ok nmX6 (by decide) lkX6_sign_f45 rfl rfl rfl e2 dX6_sign_2 (fun H locs Y => ?_)
  refine lv_iload_n X.1 X.2.1 dX6_sign_5 rfl (lv_at hl 1 rfl) ?_
  obtain ⟨v4, e3, hF⟩ := hp_b hF
  refine hp_ci Y (hp_runS X Y (As := [.int x1]) (n := 1) (mX6_isRegister l G e3) gX6_sign_X6_isRegister rfl rfl rfl ndX6_isRegister ⟨Nat.le_of_ble_eq_true rfl, Nat.le_of_ble_eq_true rfl⟩ rfl hl.1 rfl (Nat.le_of_ble_eq_true rfl) dX6_sign_6 ⟨Nat.zero_le _, Nat.zero_le _⟩) (fun H locs Y => ?_)
  refine lv_if_eq (tgt := 21) X.1 X.2.1 dX6_sign_9 (by decide) (fun c5 => ?_) (fun c5 => ?_)
  · have hF := hp_ifp (c5) hF
    refine lv_iconst (v := 2) X.1 X.2.1 dX6_sign_21 (by decide) ?_
    cases hF
    exact hp_ri X Y rfl rfl dX6_sign_22
  · have hF := hp_ifn (c5) hF
    refine lv_aload_n X.1 X.2.1 dX6_sign_12 rfl (lv_at hl 0 rfl) ?_
    obtain ⟨v6, e7, hF⟩ := hp_b hF
    refine hp_getr X Y (C := RX6) (T := TX6) (N := 14) (ci := 6) (k := 2) rfl inX6_sign_X6 (by decide) lkX6_sign_f16 e7 dX6_sign_13 ?_
    refine lv_iload_n X.1 X.2.1 dX6_sign_16 rfl (lv_at hl 1 rfl) ?_
    obtain ⟨v8, e9, hF⟩ := hp_b hF
    refine hp_iald X Y e9 dX6_sign_17 ?_
    refine lv_goto (tgt := 22) X.1 X.2.1 dX6_sign_18 (by decide) ?_
    cases hF
    exact hp_ri X Y rfl rfl dX6_sign_22

/-! WholeNumbersModel.bits -/
def rmX6_bits : Room := { frames := 3, cells := 0, slots := 0, locals := 68 }
def fX6_bits (x0 : Nat) (x1 : Int32) (h : hp_H) : Option (Int32 × hp_H) :=
  if hp_o h x0 6 = true then
  (hp_pv h x0 6 11 (.int (0 : Int32))).bind fun h1 =>
  (fX6_isRegister x1).bind fun v4 =>
  if v4 = 0 then (
    some ((-1 : Int32), h1))
  else (
    (fX6_bitsOf x0 x1 h1).bind fun (v8, h7) =>
    some (v8, h7))
  else none
theorem inX6_bits_X6 : ∀ w ∈ wsX60, w ∈ wsX6_bits := by decide +kernel
theorem lkX6_bits_f45 : Cond.fieldLink RX6 45 (TX6 11).1 (TX6 11).2.1 (TX6 11).2.2.1 ∈ wsX6_bits := by decide +kernel
theorem ndX6_bits : yX6_bits.cls ≠ "java/lang/invoke/MethodHandle" ∧ yX6_bits.cls ≠ "java/lang/invoke/VarHandle" ∧ (parseMethodDescriptor yX6_bits.desc).map (fun d => d.parameters.length) = some 1 := by decide +kernel
theorem oX6_bits {x0 : Nat} {x1 : Int32} {h h' : hp_H} {r : Int32} (hF : fX6_bits x0 x1 h = some (r, h')) : hp_o h x0 6 = true := by
  unfold fX6_bits at hF
  exact (hp_ift hF).1
set_option maxRecDepth 100000 in
set_option maxHeartbeats 4000000 in
theorem mX6_bits (l : Launch) (G : hp_G) {x0 : Nat} {x1 : Int32} {h h' : hp_H} {r : Int32} (hF : fX6_bits x0 x1 h = some (r, h')) : Met l yX6_bits wsX6_bits rmX6_bits (va_Pc [.ref x0, .int x1] (hp_S G h)) (va_Qi (fun r' u => r' = r ∧ u = h') (hp_B G h) (hp_A h)) 0 0 (hp_A h) := by
  refine hp_met (cc := cX6_bits) (nL := 2) (ret := (some .int)) (by decide) rfl ?_
  intro p e s m below meth c X Y
  have hl := lv_entry ([.ref x0, .int x1]) (n := 2) (Nat.le_of_ble_eq_true rfl)
  rw [lg_entry_eq]
  generalize (lg_sl ([.ref x0, .int x1]) ++ List.replicate (2 - (lg_sl ([.ref x0, .int x1])).length) Slot.unset).toArray = ls at hl ⊢
  have hl : lv_has ls 2 [(0, .ref x0), (1, .int x1)] := hl
  unfold fX6_bits at hF
  obtain ⟨ho, hF⟩ := hp_ift hF
  refine lv_aload_n X.1 X.2.1 dX6_bits_0 rfl (lv_at hl 0 rfl) ?_
  refine lv_iconst (v := 0) X.1 X.2.1 dX6_bits_1 (by decide) ?_
  obtain ⟨h1, e2, hF⟩ := hp_b hF
  refine hp_put X Y (C := RX6) (T := TX6) (N := 14) (ci := 6) (k := 11) (ty0 := tyX6) rfl inX6_bits_X6 tyX6_ok nmX6 (by decide) lkX6_bits_f45 rfl rfl rfl e2 dX6_bits_2 (fun H locs Y => ?_)
  refine lv_iload_n X.1 X.2.1 dX6_bits_5 rfl (lv_at hl 1 rfl) ?_
  obtain ⟨v4, e3, hF⟩ := hp_b hF
  refine hp_ci Y (hp_runS X Y (As := [.int x1]) (n := 1) (mX6_isRegister l G e3) gX6_bits_X6_isRegister rfl rfl rfl ndX6_isRegister ⟨Nat.le_of_ble_eq_true rfl, Nat.le_of_ble_eq_true rfl⟩ rfl hl.1 rfl (Nat.le_of_ble_eq_true rfl) dX6_bits_6 ⟨Nat.zero_le _, Nat.zero_le _⟩) (fun H locs Y => ?_)
  refine lv_if_eq (tgt := 20) X.1 X.2.1 dX6_bits_9 (by decide) (fun c5 => ?_) (fun c5 => ?_)
  · have hF := hp_ifp (c5) hF
    refine lv_iconst (v := -1) X.1 X.2.1 dX6_bits_20 (by decide) ?_
    cases hF
    exact hp_ri X Y rfl rfl dX6_bits_21
  · have hF := hp_ifn (c5) hF
    refine lv_aload_n X.1 X.2.1 dX6_bits_12 rfl (lv_at hl 0 rfl) ?_
    refine lv_iload_n X.1 X.2.1 dX6_bits_13 rfl (lv_at hl 1 rfl) ?_
    obtain ⟨⟨v8, h7⟩, e6, hF⟩ := hp_b hF
    refine hp_ci Y (hp_runV X Y (ci := 6) (As := [.int x1]) (n := 1) (T := TX6) (N := 14) (mX6_bitsOf l G e6) rfl (oX6_bitsOf e6) gX6_bits_X6_bitsOf rfl rfl rfl ndX6_bitsOf ⟨Nat.le_of_ble_eq_true rfl, Nat.le_of_ble_eq_true rfl⟩ rfl hl.1 rfl (Nat.le_of_ble_eq_true rfl) dX6_bits_14 ⟨Nat.zero_le _, Nat.zero_le _⟩) (fun H locs Y => ?_)
    refine lv_goto (tgt := 21) X.1 X.2.1 dX6_bits_17 (by decide) ?_
    cases hF
    exact hp_ri X Y rfl rfl dX6_bits_21

/-! WholeNumbersModel.part -/
def rmX6_part : Room := { frames := 2, cells := 0, slots := 0, locals := 46 }
def bX6_part_91 (k63 : Int32 → Int32 → hp_H → Option (Int32 × hp_H)) (x0 : Nat) (x3 : Int32) (x4 : Int32)  (h : hp_H) : Option (Int32 × hp_H) :=
  (hp_gr h x0 6 5).bind fun v1 =>
  (hp_gi h x0 6 8).bind fun v3 =>
  (fX6_half v1 v3 h).bind fun (v7, h6) =>
  (hp_pv h6 x0 6 8 (.int v7)).bind fun h9 =>
  (some (x4 + (1 : Int32))).bind fun v11 =>
  k63 x3 v11 h9
def bX6_part_63  (x0 : Nat) : Nat → Int32 → Int32 → hp_H → Option (Int32 × hp_H)
  | 0, _, _, _ => none
  | n + 1, x3, x4, h =>
  if (30 : Int32) ≤ x4 then (
    some (x3, h))
  else (
    (hp_gr h x0 6 5).bind fun v2 =>
    (hp_gi h x0 6 8).bind fun v4 =>
    (fX6_isOdd v2 v4 h).bind fun v7 =>
    if v7 = 0 then (
      bX6_part_91 (bX6_part_63 x0 n) x0 x3 x4 h)
    else (
      (some (x3 ||| (hp_ishl (1 : Int32) x4))).bind fun v9 =>
      bX6_part_91 (bX6_part_63 x0 n) x0 v9 x4 h))
def bX6_part_58  (x0 : Nat)  (h : hp_H) : Option (Int32 × hp_H) :=
  bX6_part_63 x0 hp_n (0 : Int32) (0 : Int32) h
def bX6_part_25  (x0 : Nat) (x2 : Int32) : Nat → Int32 → hp_H → Option (Int32 × hp_H)
  | 0, _, _ => none
  | n + 1, x3, h =>
  if x2 ≤ x3 then (
    bX6_part_58 x0 h)
  else (
    (hp_gi h x0 6 8).bind fun v2 =>
    if v2 ≤ 0 then (
      bX6_part_58 x0 h)
    else (
      (hp_gr h x0 6 5).bind fun v5 =>
      (hp_gi h x0 6 8).bind fun v7 =>
      (fX6_half v5 v7 h).bind fun (v11, h10) =>
      (hp_pv h10 x0 6 8 (.int v11)).bind fun h13 =>
      (some (x3 + (1 : Int32))).bind fun v15 =>
      bX6_part_25 x0 x2 n v15 h13))
def fX6_part (x0 : Nat) (x1 : Int32) (x2 : Int32) (h : hp_H) : Option (Int32 × hp_H) :=
  if hp_o h x0 6 = true then
  (hp_pv h x0 6 11 (.int (0 : Int32))).bind fun h1 =>
  (fX6_isRegister x1).bind fun v4 =>
  if v4 = 0 then (
    some ((-1 : Int32), h1))
  else (
    if 0 ≤ x2 then (
      (fX6_toX x0 x1 h1).bind fun h8 =>
      bX6_part_25 x0 x2 hp_n (0 : Int32) h8)
    else (
      some ((-1 : Int32), h1)))
  else none
theorem inX6_part_X6 : ∀ w ∈ wsX60, w ∈ wsX6_part := by decide +kernel
theorem lkX6_part_f22 : Cond.fieldLink RX6 22 (TX6 5).1 (TX6 5).2.1 (TX6 5).2.2.1 ∈ wsX6_part := by decide +kernel
theorem lkX6_part_f34 : Cond.fieldLink RX6 34 (TX6 8).1 (TX6 8).2.1 (TX6 8).2.2.1 ∈ wsX6_part := by decide +kernel
theorem lkX6_part_f45 : Cond.fieldLink RX6 45 (TX6 11).1 (TX6 11).2.1 (TX6 11).2.2.1 ∈ wsX6_part := by decide +kernel
theorem ndX6_part : yX6_part.cls ≠ "java/lang/invoke/MethodHandle" ∧ yX6_part.cls ≠ "java/lang/invoke/VarHandle" ∧ (parseMethodDescriptor yX6_part.desc).map (fun d => d.parameters.length) = some 2 := by decide +kernel
set_option maxRecDepth 100000 in
set_option maxHeartbeats 4000000 in
theorem wX6_part_91 {p : Program} {l : Launch} {e : Env} {s : State} {m : MethodId} {args : Array Value} {below : List Frame} {meth : Method} {c : Code} {G : hp_G} {h0 h' : hp_H} {r : Int32} (X : hp_X p s m args meth c cX6_part 5 RX6 wsX6_part (some .int) G) {k63 : Int32 → Int32 → hp_H → Option (Int32 × hp_H)} {x0 : Nat} {x3 : Int32} {x4 : Int32}  (hk63 : ∀ (y3 : Int32) (y4 : Int32) (h : hp_H) (H : Heap) (locs : List Loc) (ls : Array Slot), hp_Y G h h0 s H locs → lv_has ls 5 [(0, .ref x0), (3, .int y3), (4, .int y4)] → k63 y3 y4 h = some (r, h') → W p l e rmX6_part s m args below meth c H locs 0 0 (MQ below (va_Qi (fun r' u => r' = r ∧ u = h') (hp_B G h0) (hp_A h0)) args s 0 0 (hp_A h0)) (F0 m 63 ls [])) {h : hp_H} {H : Heap} {locs : List Loc} {ls : Array Slot} (Y : hp_Y G h h0 s H locs) (hl : lv_has ls 5 [(0, .ref x0), (3, .int x3), (4, .int x4)]) (hF : bX6_part_91 k63 x0 x3 x4 h = some (r, h')) : W p l e rmX6_part s m args below meth c H locs 0 0 (MQ below (va_Qi (fun r' u => r' = r ∧ u = h') (hp_B G h0) (hp_A h0)) args s 0 0 (hp_A h0)) (F0 m 91 ls []) := by
  unfold bX6_part_91 at hF
  refine lv_aload_n X.1 X.2.1 dX6_part_91 rfl (lv_at hl 0 rfl) ?_
  refine lv_aload_n X.1 X.2.1 dX6_part_92 rfl (lv_at hl 0 rfl) ?_
  obtain ⟨v1, e2, hF⟩ := hp_b hF
  refine hp_getr X Y (C := RX6) (T := TX6) (N := 14) (ci := 6) (k := 5) rfl inX6_part_X6 (by decide) lkX6_part_f22 e2 dX6_part_93 ?_
  refine lv_aload_n X.1 X.2.1 dX6_part_96 rfl (lv_at hl 0 rfl) ?_
  obtain ⟨v3, e4, hF⟩ := hp_b hF
  refine hp_geti X Y (C := RX6) (T := TX6) (N := 14) (ci := 6) (k := 8) rfl inX6_part_X6 (by decide) lkX6_part_f34 e4 dX6_part_97 ?_
  obtain ⟨⟨v7, h6⟩, e5, hF⟩ := hp_b hF
  refine hp_ci Y (hp_runS X Y (As := [.ref v1, .int v3]) (n := 2) (mX6_half l G e5) gX6_part_X6_half rfl rfl rfl ndX6_half ⟨Nat.le_of_ble_eq_true rfl, Nat.le_of_ble_eq_true rfl⟩ rfl hl.1 rfl (Nat.le_of_ble_eq_true rfl) dX6_part_100 ⟨Nat.zero_le _, Nat.zero_le _⟩) (fun H locs Y => ?_)
  obtain ⟨h9, e10, hF⟩ := hp_b hF
  refine hp_put X Y (C := RX6) (T := TX6) (N := 14) (ci := 6) (k := 8) (ty0 := tyX6) rfl inX6_part_X6 tyX6_ok nmX6 (by decide) lkX6_part_f34 rfl rfl rfl e10 dX6_part_103 (fun H locs Y => ?_)
  obtain ⟨v11, e12, hF⟩ := hp_b hF
  refine lv_iinc (v := v11) (lv' := [(4, .int v11), (0, .ref x0), (3, .int x3)]) X.1 X.2.1 dX6_part_106 hl (k := 2) rfl (Option.some.inj e12) (by decide) rfl (fun ls hl => ?_)
  refine lv_goto (tgt := 63) X.1 X.2.1 dX6_part_109 (by decide) ?_
  exact hk63 _ _ _  _ _ _ Y (lv_sub hl [1, 2, 0] rfl) hF
set_option maxRecDepth 100000 in
set_option maxHeartbeats 4000000 in
theorem wX6_part_63 {p : Program} {l : Launch} {e : Env} {s : State} {m : MethodId} {args : Array Value} {below : List Frame} {meth : Method} {c : Code} {G : hp_G} {h0 h' : hp_H} {r : Int32} (X : hp_X p s m args meth c cX6_part 5 RX6 wsX6_part (some .int) G)  {x0 : Nat}   : ∀ (n : Nat) {x3 : Int32} {x4 : Int32} {h : hp_H} {H : Heap} {locs : List Loc} {ls : Array Slot} (Y : hp_Y G h h0 s H locs) (hl : lv_has ls 5 [(0, .ref x0), (3, .int x3), (4, .int x4)]) (hF : bX6_part_63 x0 n x3 x4 h = some (r, h')), W p l e rmX6_part s m args below meth c H locs 0 0 (MQ below (va_Qi (fun r' u => r' = r ∧ u = h') (hp_B G h0) (hp_A h0)) args s 0 0 (hp_A h0)) (F0 m 63 ls []) := by
  intro n
  induction n with
  | zero =>
    intro x3 x4 h H locs ls Y hl hF
    exact absurd (show none = some _ from hF) (by simp)
  | succ n ih =>
    intro x3 x4 h H locs ls Y hl hF
    rw [bX6_part_63] at hF
    refine lv_iload X.1 X.2.1 dX6_part_63 (lv_at hl 2 rfl) ?_
    refine lv_bipush (v := 30) X.1 X.2.1 dX6_part_65 (by decide) ?_
    refine lv_icmp_ge (tgt := 112) X.1 X.2.1 dX6_part_67 (by decide) (fun c1 => ?_) (fun c1 => ?_)
    · have hF := hp_ifp (c1) hF
      refine lv_iload_n X.1 X.2.1 dX6_part_112 rfl (lv_at hl 1 rfl) ?_
      cases hF
      exact hp_ri X Y rfl rfl dX6_part_113
    · have hF := hp_ifn (c1) hF
      refine lv_aload_n X.1 X.2.1 dX6_part_70 rfl (lv_at hl 0 rfl) ?_
      obtain ⟨v2, e3, hF⟩ := hp_b hF
      refine hp_getr X Y (C := RX6) (T := TX6) (N := 14) (ci := 6) (k := 5) rfl inX6_part_X6 (by decide) lkX6_part_f22 e3 dX6_part_71 ?_
      refine lv_aload_n X.1 X.2.1 dX6_part_74 rfl (lv_at hl 0 rfl) ?_
      obtain ⟨v4, e5, hF⟩ := hp_b hF
      refine hp_geti X Y (C := RX6) (T := TX6) (N := 14) (ci := 6) (k := 8) rfl inX6_part_X6 (by decide) lkX6_part_f34 e5 dX6_part_75 ?_
      obtain ⟨v7, e6, hF⟩ := hp_b hF
      refine hp_ci Y (hp_runS X Y (As := [.ref v2, .int v4]) (n := 2) (mX6_isOdd l G e6) gX6_part_X6_isOdd rfl rfl rfl ndX6_isOdd ⟨Nat.le_of_ble_eq_true rfl, Nat.le_of_ble_eq_true rfl⟩ rfl hl.1 rfl (Nat.le_of_ble_eq_true rfl) dX6_part_78 ⟨Nat.zero_le _, Nat.zero_le _⟩) (fun H locs Y => ?_)
      refine lv_if_eq (tgt := 91) X.1 X.2.1 dX6_part_81 (by decide) (fun c8 => ?_) (fun c8 => ?_)
      · have hF := hp_ifp (c8) hF
        exact wX6_part_91 X (fun _ _ _ _ _ _ Y hl hF => ih Y hl hF) Y (lv_sub hl [0, 1, 2] rfl) hF
      · have hF := hp_ifn (c8) hF
        refine lv_iload_n X.1 X.2.1 dX6_part_84 rfl (lv_at hl 1 rfl) ?_
        refine lv_iconst (v := 1) X.1 X.2.1 dX6_part_85 (by decide) ?_
        refine lv_iload X.1 X.2.1 dX6_part_86 (lv_at hl 2 rfl) ?_
        refine lv_ishl X.1 X.2.1 dX6_part_88 ?_
        refine lv_ior X.1 X.2.1 dX6_part_89 ?_
        obtain ⟨v9, e10, hF⟩ := hp_b hF
        refine hp_ti (Option.some.inj e10) ?_
        refine lv_istore_n (lv' := [(3, .int v9), (0, .ref x0), (4, .int x4)]) X.1 X.2.1 dX6_part_90 rfl hl (by decide) rfl (fun ls hl => ?_)
        exact wX6_part_91 X (fun _ _ _ _ _ _ Y hl hF => ih Y hl hF) Y (lv_sub hl [1, 0, 2] rfl) hF
set_option maxRecDepth 100000 in
set_option maxHeartbeats 4000000 in
theorem wX6_part_58 {p : Program} {l : Launch} {e : Env} {s : State} {m : MethodId} {args : Array Value} {below : List Frame} {meth : Method} {c : Code} {G : hp_G} {h0 h' : hp_H} {r : Int32} (X : hp_X p s m args meth c cX6_part 5 RX6 wsX6_part (some .int) G)  {x0 : Nat}   {h : hp_H} {H : Heap} {locs : List Loc} {ls : Array Slot} (Y : hp_Y G h h0 s H locs) (hl : lv_has ls 5 [(0, .ref x0)]) (hF : bX6_part_58 x0 h = some (r, h')) : W p l e rmX6_part s m args below meth c H locs 0 0 (MQ below (va_Qi (fun r' u => r' = r ∧ u = h') (hp_B G h0) (hp_A h0)) args s 0 0 (hp_A h0)) (F0 m 58 ls []) := by
  unfold bX6_part_58 at hF
  refine lv_iconst (v := 0) X.1 X.2.1 dX6_part_58 (by decide) ?_
  refine lv_istore_n (lv' := [(3, .int (0 : Int32)), (0, .ref x0)]) X.1 X.2.1 dX6_part_59 rfl hl (by decide) rfl (fun ls hl => ?_)
  refine lv_iconst (v := 0) X.1 X.2.1 dX6_part_60 (by decide) ?_
  refine lv_istore (lv' := [(4, .int (0 : Int32)), (3, .int (0 : Int32)), (0, .ref x0)]) X.1 X.2.1 dX6_part_61 hl (by decide) rfl (fun ls hl => ?_)
  exact wX6_part_63 X  hp_n Y (lv_sub hl [2, 1, 0] rfl) hF
set_option maxRecDepth 100000 in
set_option maxHeartbeats 4000000 in
theorem wX6_part_25 {p : Program} {l : Launch} {e : Env} {s : State} {m : MethodId} {args : Array Value} {below : List Frame} {meth : Method} {c : Code} {G : hp_G} {h0 h' : hp_H} {r : Int32} (X : hp_X p s m args meth c cX6_part 5 RX6 wsX6_part (some .int) G)  {x0 : Nat} {x2 : Int32}   : ∀ (n : Nat) {x3 : Int32} {h : hp_H} {H : Heap} {locs : List Loc} {ls : Array Slot} (Y : hp_Y G h h0 s H locs) (hl : lv_has ls 5 [(0, .ref x0), (2, .int x2), (3, .int x3)]) (hF : bX6_part_25 x0 x2 n x3 h = some (r, h')), W p l e rmX6_part s m args below meth c H locs 0 0 (MQ below (va_Qi (fun r' u => r' = r ∧ u = h') (hp_B G h0) (hp_A h0)) args s 0 0 (hp_A h0)) (F0 m 25 ls []) := by
  intro n
  induction n with
  | zero =>
    intro x3 h H locs ls Y hl hF
    exact absurd (show none = some _ from hF) (by simp)
  | succ n ih =>
    intro x3 h H locs ls Y hl hF
    rw [bX6_part_25] at hF
    refine lv_iload_n X.1 X.2.1 dX6_part_25 rfl (lv_at hl 2 rfl) ?_
    refine lv_iload_n X.1 X.2.1 dX6_part_26 rfl (lv_at hl 1 rfl) ?_
    refine lv_icmp_ge (tgt := 58) X.1 X.2.1 dX6_part_27 (by decide) (fun c1 => ?_) (fun c1 => ?_)
    · have hF := hp_ifp (c1) hF
      exact wX6_part_58 X  Y (lv_sub hl [0] rfl) hF
    · have hF := hp_ifn (c1) hF
      refine lv_aload_n X.1 X.2.1 dX6_part_30 rfl (lv_at hl 0 rfl) ?_
      obtain ⟨v2, e3, hF⟩ := hp_b hF
      refine hp_geti X Y (C := RX6) (T := TX6) (N := 14) (ci := 6) (k := 8) rfl inX6_part_X6 (by decide) lkX6_part_f34 e3 dX6_part_31 ?_
      refine lv_if_le (tgt := 58) X.1 X.2.1 dX6_part_34 (by decide) (fun c4 => ?_) (fun c4 => ?_)
      · have hF := hp_ifp (c4) hF
        exact wX6_part_58 X  Y (lv_sub hl [0] rfl) hF
      · have hF := hp_ifn (c4) hF
        refine lv_aload_n X.1 X.2.1 dX6_part_37 rfl (lv_at hl 0 rfl) ?_
        refine lv_aload_n X.1 X.2.1 dX6_part_38 rfl (lv_at hl 0 rfl) ?_
        obtain ⟨v5, e6, hF⟩ := hp_b hF
        refine hp_getr X Y (C := RX6) (T := TX6) (N := 14) (ci := 6) (k := 5) rfl inX6_part_X6 (by decide) lkX6_part_f22 e6 dX6_part_39 ?_
        refine lv_aload_n X.1 X.2.1 dX6_part_42 rfl (lv_at hl 0 rfl) ?_
        obtain ⟨v7, e8, hF⟩ := hp_b hF
        refine hp_geti X Y (C := RX6) (T := TX6) (N := 14) (ci := 6) (k := 8) rfl inX6_part_X6 (by decide) lkX6_part_f34 e8 dX6_part_43 ?_
        obtain ⟨⟨v11, h10⟩, e9, hF⟩ := hp_b hF
        refine hp_ci Y (hp_runS X Y (As := [.ref v5, .int v7]) (n := 2) (mX6_half l G e9) gX6_part_X6_half rfl rfl rfl ndX6_half ⟨Nat.le_of_ble_eq_true rfl, Nat.le_of_ble_eq_true rfl⟩ rfl hl.1 rfl (Nat.le_of_ble_eq_true rfl) dX6_part_46 ⟨Nat.zero_le _, Nat.zero_le _⟩) (fun H locs Y => ?_)
        obtain ⟨h13, e14, hF⟩ := hp_b hF
        refine hp_put X Y (C := RX6) (T := TX6) (N := 14) (ci := 6) (k := 8) (ty0 := tyX6) rfl inX6_part_X6 tyX6_ok nmX6 (by decide) lkX6_part_f34 rfl rfl rfl e14 dX6_part_49 (fun H locs Y => ?_)
        obtain ⟨v15, e16, hF⟩ := hp_b hF
        refine lv_iinc (v := v15) (lv' := [(3, .int v15), (0, .ref x0), (2, .int x2)]) X.1 X.2.1 dX6_part_52 hl (k := 2) rfl (Option.some.inj e16) (by decide) rfl (fun ls hl => ?_)
        refine lv_goto (tgt := 25) X.1 X.2.1 dX6_part_55 (by decide) ?_
        exact ih Y (lv_sub hl [1, 2, 0] rfl) hF
theorem oX6_part {x0 : Nat} {x1 : Int32} {x2 : Int32} {h h' : hp_H} {r : Int32} (hF : fX6_part x0 x1 x2 h = some (r, h')) : hp_o h x0 6 = true := by
  unfold fX6_part at hF
  exact (hp_ift hF).1
set_option maxRecDepth 100000 in
set_option maxHeartbeats 4000000 in
theorem mX6_part (l : Launch) (G : hp_G) {x0 : Nat} {x1 : Int32} {x2 : Int32} {h h' : hp_H} {r : Int32} (hF : fX6_part x0 x1 x2 h = some (r, h')) : Met l yX6_part wsX6_part rmX6_part (va_Pc [.ref x0, .int x1, .int x2] (hp_S G h)) (va_Qi (fun r' u => r' = r ∧ u = h') (hp_B G h) (hp_A h)) 0 0 (hp_A h) := by
  refine hp_met (cc := cX6_part) (nL := 5) (ret := (some .int)) (by decide) rfl ?_
  intro p e s m below meth c X Y
  have hl := lv_entry ([.ref x0, .int x1, .int x2]) (n := 5) (Nat.le_of_ble_eq_true rfl)
  rw [lg_entry_eq]
  generalize (lg_sl ([.ref x0, .int x1, .int x2]) ++ List.replicate (5 - (lg_sl ([.ref x0, .int x1, .int x2])).length) Slot.unset).toArray = ls at hl ⊢
  have hl : lv_has ls 5 [(0, .ref x0), (1, .int x1), (2, .int x2)] := hl
  unfold fX6_part at hF
  obtain ⟨ho, hF⟩ := hp_ift hF
  refine lv_aload_n X.1 X.2.1 dX6_part_0 rfl (lv_at hl 0 rfl) ?_
  refine lv_iconst (v := 0) X.1 X.2.1 dX6_part_1 (by decide) ?_
  obtain ⟨h1, e2, hF⟩ := hp_b hF
  refine hp_put X Y (C := RX6) (T := TX6) (N := 14) (ci := 6) (k := 11) (ty0 := tyX6) rfl inX6_part_X6 tyX6_ok nmX6 (by decide) lkX6_part_f45 rfl rfl rfl e2 dX6_part_2 (fun H locs Y => ?_)
  refine lv_iload_n X.1 X.2.1 dX6_part_5 rfl (lv_at hl 1 rfl) ?_
  obtain ⟨v4, e3, hF⟩ := hp_b hF
  refine hp_ci Y (hp_runS X Y (As := [.int x1]) (n := 1) (mX6_isRegister l G e3) gX6_part_X6_isRegister rfl rfl rfl ndX6_isRegister ⟨Nat.le_of_ble_eq_true rfl, Nat.le_of_ble_eq_true rfl⟩ rfl hl.1 rfl (Nat.le_of_ble_eq_true rfl) dX6_part_6 ⟨Nat.zero_le _, Nat.zero_le _⟩) (fun H locs Y => ?_)
  refine lv_if_eq (tgt := 16) X.1 X.2.1 dX6_part_9 (by decide) (fun c5 => ?_) (fun c5 => ?_)
  · have hF := hp_ifp (c5) hF
    refine lv_iconst (v := -1) X.1 X.2.1 dX6_part_16 (by decide) ?_
    cases hF
    exact hp_ri X Y rfl rfl dX6_part_17
  · have hF := hp_ifn (c5) hF
    refine lv_iload_n X.1 X.2.1 dX6_part_12 rfl (lv_at hl 2 rfl) ?_
    refine lv_if_ge (tgt := 18) X.1 X.2.1 dX6_part_13 (by decide) (fun c6 => ?_) (fun c6 => ?_)
    · have hF := hp_ifp (c6) hF
      refine lv_aload_n X.1 X.2.1 dX6_part_18 rfl (lv_at hl 0 rfl) ?_
      refine lv_iload_n X.1 X.2.1 dX6_part_19 rfl (lv_at hl 1 rfl) ?_
      obtain ⟨h8, e7, hF⟩ := hp_b hF
      refine hp_cv Y (hp_runV X Y (ci := 6) (As := [.int x1]) (n := 1) (T := TX6) (N := 14) (mX6_toX l G e7) rfl (oX6_toX e7) gX6_part_X6_toX rfl rfl rfl ndX6_toX ⟨Nat.le_of_ble_eq_true rfl, Nat.le_of_ble_eq_true rfl⟩ rfl hl.1 rfl (Nat.le_of_ble_eq_true rfl) dX6_part_20 ⟨Nat.zero_le _, Nat.zero_le _⟩) (fun H locs Y => ?_)
      refine lv_iconst (v := 0) X.1 X.2.1 dX6_part_23 (by decide) ?_
      refine lv_istore_n (lv' := [(3, .int (0 : Int32)), (0, .ref x0), (1, .int x1), (2, .int x2)]) X.1 X.2.1 dX6_part_24 rfl hl (by decide) rfl (fun ls hl => ?_)
      exact wX6_part_25 X  hp_n Y (lv_sub hl [1, 3, 0] rfl) hF
    · have hF := hp_ifn (c6) hF
      refine lv_iconst (v := -1) X.1 X.2.1 dX6_part_16 (by decide) ?_
      cases hF
      exact hp_ri X Y rfl rfl dX6_part_17

/-! WholeNumbersModel.anyBelow -/
def rmX6_anyBelow : Room := { frames := 2, cells := 0, slots := 0, locals := 46 }
def bX6_anyBelow_7  (x0 : Nat) (x2 : Int32) : Nat → Int32 → hp_H → Option (Int32 × hp_H)
  | 0, _, _ => none
  | n + 1, x3, h =>
  if x2 ≤ x3 then (
    some ((0 : Int32), h))
  else (
    (hp_gi h x0 6 8).bind fun v2 =>
    if v2 ≤ 0 then (
      some ((0 : Int32), h))
    else (
      (hp_gr h x0 6 5).bind fun v5 =>
      (hp_gi h x0 6 8).bind fun v7 =>
      (fX6_isOdd v5 v7 h).bind fun v10 =>
      if v10 = 0 then (
        (hp_gr h x0 6 5).bind fun v12 =>
        (hp_gi h x0 6 8).bind fun v14 =>
        (fX6_half v12 v14 h).bind fun (v18, h17) =>
        (hp_pv h17 x0 6 8 (.int v18)).bind fun h20 =>
        (some (x3 + (1 : Int32))).bind fun v22 =>
        bX6_anyBelow_7 x0 x2 n v22 h20)
      else (
        some ((1 : Int32), h))))
def fX6_anyBelow (x0 : Nat) (x1 : Int32) (x2 : Int32) (h : hp_H) : Option (Int32 × hp_H) :=
  if hp_o h x0 6 = true then
  (fX6_toX x0 x1 h).bind fun h2 =>
  bX6_anyBelow_7 x0 x2 hp_n (0 : Int32) h2
  else none
theorem inX6_anyBelow_X6 : ∀ w ∈ wsX60, w ∈ wsX6_anyBelow := by decide +kernel
theorem lkX6_anyBelow_f34 : Cond.fieldLink RX6 34 (TX6 8).1 (TX6 8).2.1 (TX6 8).2.2.1 ∈ wsX6_anyBelow := by decide +kernel
theorem lkX6_anyBelow_f22 : Cond.fieldLink RX6 22 (TX6 5).1 (TX6 5).2.1 (TX6 5).2.2.1 ∈ wsX6_anyBelow := by decide +kernel
theorem ndX6_anyBelow : yX6_anyBelow.cls ≠ "java/lang/invoke/MethodHandle" ∧ yX6_anyBelow.cls ≠ "java/lang/invoke/VarHandle" ∧ (parseMethodDescriptor yX6_anyBelow.desc).map (fun d => d.parameters.length) = some 2 := by decide +kernel
set_option maxRecDepth 100000 in
set_option maxHeartbeats 4000000 in
theorem wX6_anyBelow_7 {p : Program} {l : Launch} {e : Env} {s : State} {m : MethodId} {args : Array Value} {below : List Frame} {meth : Method} {c : Code} {G : hp_G} {h0 h' : hp_H} {r : Int32} (X : hp_X p s m args meth c cX6_anyBelow 4 RX6 wsX6_anyBelow (some .boolean) G)  {x0 : Nat} {x2 : Int32}   : ∀ (n : Nat) {x3 : Int32} {h : hp_H} {H : Heap} {locs : List Loc} {ls : Array Slot} (Y : hp_Y G h h0 s H locs) (hl : lv_has ls 4 [(0, .ref x0), (2, .int x2), (3, .int x3)]) (hF : bX6_anyBelow_7 x0 x2 n x3 h = some (r, h')), W p l e rmX6_anyBelow s m args below meth c H locs 0 0 (MQ below (va_Qi (fun r' u => r' = r ∧ u = h') (hp_B G h0) (hp_A h0)) args s 0 0 (hp_A h0)) (F0 m 7 ls []) := by
  intro n
  induction n with
  | zero =>
    intro x3 h H locs ls Y hl hF
    exact absurd (show none = some _ from hF) (by simp)
  | succ n ih =>
    intro x3 h H locs ls Y hl hF
    rw [bX6_anyBelow_7] at hF
    refine lv_iload_n X.1 X.2.1 dX6_anyBelow_7 rfl (lv_at hl 2 rfl) ?_
    refine lv_iload_n X.1 X.2.1 dX6_anyBelow_8 rfl (lv_at hl 1 rfl) ?_
    refine lv_icmp_ge (tgt := 56) X.1 X.2.1 dX6_anyBelow_9 (by decide) (fun c1 => ?_) (fun c1 => ?_)
    · have hF := hp_ifp (c1) hF
      refine lv_iconst (v := 0) X.1 X.2.1 dX6_anyBelow_56 (by decide) ?_
      cases hF
      exact hp_ri X Y rfl rfl dX6_anyBelow_57
    · have hF := hp_ifn (c1) hF
      refine lv_aload_n X.1 X.2.1 dX6_anyBelow_12 rfl (lv_at hl 0 rfl) ?_
      obtain ⟨v2, e3, hF⟩ := hp_b hF
      refine hp_geti X Y (C := RX6) (T := TX6) (N := 14) (ci := 6) (k := 8) rfl inX6_anyBelow_X6 (by decide) lkX6_anyBelow_f34 e3 dX6_anyBelow_13 ?_
      refine lv_if_le (tgt := 56) X.1 X.2.1 dX6_anyBelow_16 (by decide) (fun c4 => ?_) (fun c4 => ?_)
      · have hF := hp_ifp (c4) hF
        refine lv_iconst (v := 0) X.1 X.2.1 dX6_anyBelow_56 (by decide) ?_
        cases hF
        exact hp_ri X Y rfl rfl dX6_anyBelow_57
      · have hF := hp_ifn (c4) hF
        refine lv_aload_n X.1 X.2.1 dX6_anyBelow_19 rfl (lv_at hl 0 rfl) ?_
        obtain ⟨v5, e6, hF⟩ := hp_b hF
        refine hp_getr X Y (C := RX6) (T := TX6) (N := 14) (ci := 6) (k := 5) rfl inX6_anyBelow_X6 (by decide) lkX6_anyBelow_f22 e6 dX6_anyBelow_20 ?_
        refine lv_aload_n X.1 X.2.1 dX6_anyBelow_23 rfl (lv_at hl 0 rfl) ?_
        obtain ⟨v7, e8, hF⟩ := hp_b hF
        refine hp_geti X Y (C := RX6) (T := TX6) (N := 14) (ci := 6) (k := 8) rfl inX6_anyBelow_X6 (by decide) lkX6_anyBelow_f34 e8 dX6_anyBelow_24 ?_
        obtain ⟨v10, e9, hF⟩ := hp_b hF
        refine hp_ci Y (hp_runS X Y (As := [.ref v5, .int v7]) (n := 2) (mX6_isOdd l G e9) gX6_anyBelow_X6_isOdd rfl rfl rfl ndX6_isOdd ⟨Nat.le_of_ble_eq_true rfl, Nat.le_of_ble_eq_true rfl⟩ rfl hl.1 rfl (Nat.le_of_ble_eq_true rfl) dX6_anyBelow_27 ⟨Nat.zero_le _, Nat.zero_le _⟩) (fun H locs Y => ?_)
        refine lv_if_eq (tgt := 35) X.1 X.2.1 dX6_anyBelow_30 (by decide) (fun c11 => ?_) (fun c11 => ?_)
        · have hF := hp_ifp (c11) hF
          refine lv_aload_n X.1 X.2.1 dX6_anyBelow_35 rfl (lv_at hl 0 rfl) ?_
          refine lv_aload_n X.1 X.2.1 dX6_anyBelow_36 rfl (lv_at hl 0 rfl) ?_
          obtain ⟨v12, e13, hF⟩ := hp_b hF
          refine hp_getr X Y (C := RX6) (T := TX6) (N := 14) (ci := 6) (k := 5) rfl inX6_anyBelow_X6 (by decide) lkX6_anyBelow_f22 e13 dX6_anyBelow_37 ?_
          refine lv_aload_n X.1 X.2.1 dX6_anyBelow_40 rfl (lv_at hl 0 rfl) ?_
          obtain ⟨v14, e15, hF⟩ := hp_b hF
          refine hp_geti X Y (C := RX6) (T := TX6) (N := 14) (ci := 6) (k := 8) rfl inX6_anyBelow_X6 (by decide) lkX6_anyBelow_f34 e15 dX6_anyBelow_41 ?_
          obtain ⟨⟨v18, h17⟩, e16, hF⟩ := hp_b hF
          refine hp_ci Y (hp_runS X Y (As := [.ref v12, .int v14]) (n := 2) (mX6_half l G e16) gX6_anyBelow_X6_half rfl rfl rfl ndX6_half ⟨Nat.le_of_ble_eq_true rfl, Nat.le_of_ble_eq_true rfl⟩ rfl hl.1 rfl (Nat.le_of_ble_eq_true rfl) dX6_anyBelow_44 ⟨Nat.zero_le _, Nat.zero_le _⟩) (fun H locs Y => ?_)
          obtain ⟨h20, e21, hF⟩ := hp_b hF
          refine hp_put X Y (C := RX6) (T := TX6) (N := 14) (ci := 6) (k := 8) (ty0 := tyX6) rfl inX6_anyBelow_X6 tyX6_ok nmX6 (by decide) lkX6_anyBelow_f34 rfl rfl rfl e21 dX6_anyBelow_47 (fun H locs Y => ?_)
          obtain ⟨v22, e23, hF⟩ := hp_b hF
          refine lv_iinc (v := v22) (lv' := [(3, .int v22), (0, .ref x0), (2, .int x2)]) X.1 X.2.1 dX6_anyBelow_50 hl (k := 2) rfl (Option.some.inj e23) (by decide) rfl (fun ls hl => ?_)
          refine lv_goto (tgt := 7) X.1 X.2.1 dX6_anyBelow_53 (by decide) ?_
          exact ih Y (lv_sub hl [1, 2, 0] rfl) hF
        · have hF := hp_ifn (c11) hF
          refine lv_iconst (v := 1) X.1 X.2.1 dX6_anyBelow_33 (by decide) ?_
          cases hF
          exact hp_ri X Y rfl rfl dX6_anyBelow_34
theorem oX6_anyBelow {x0 : Nat} {x1 : Int32} {x2 : Int32} {h h' : hp_H} {r : Int32} (hF : fX6_anyBelow x0 x1 x2 h = some (r, h')) : hp_o h x0 6 = true := by
  unfold fX6_anyBelow at hF
  exact (hp_ift hF).1
set_option maxRecDepth 100000 in
set_option maxHeartbeats 4000000 in
theorem mX6_anyBelow (l : Launch) (G : hp_G) {x0 : Nat} {x1 : Int32} {x2 : Int32} {h h' : hp_H} {r : Int32} (hF : fX6_anyBelow x0 x1 x2 h = some (r, h')) : Met l yX6_anyBelow wsX6_anyBelow rmX6_anyBelow (va_Pc [.ref x0, .int x1, .int x2] (hp_S G h)) (va_Qi (fun r' u => r' = r ∧ u = h') (hp_B G h) (hp_A h)) 0 0 (hp_A h) := by
  refine hp_met (cc := cX6_anyBelow) (nL := 4) (ret := (some .boolean)) (by decide) rfl ?_
  intro p e s m below meth c X Y
  have hl := lv_entry ([.ref x0, .int x1, .int x2]) (n := 4) (Nat.le_of_ble_eq_true rfl)
  rw [lg_entry_eq]
  generalize (lg_sl ([.ref x0, .int x1, .int x2]) ++ List.replicate (4 - (lg_sl ([.ref x0, .int x1, .int x2])).length) Slot.unset).toArray = ls at hl ⊢
  have hl : lv_has ls 4 [(0, .ref x0), (1, .int x1), (2, .int x2)] := hl
  unfold fX6_anyBelow at hF
  obtain ⟨ho, hF⟩ := hp_ift hF
  refine lv_aload_n X.1 X.2.1 dX6_anyBelow_0 rfl (lv_at hl 0 rfl) ?_
  refine lv_iload_n X.1 X.2.1 dX6_anyBelow_1 rfl (lv_at hl 1 rfl) ?_
  obtain ⟨h2, e1, hF⟩ := hp_b hF
  refine hp_cv Y (hp_runV X Y (ci := 6) (As := [.int x1]) (n := 1) (T := TX6) (N := 14) (mX6_toX l G e1) rfl (oX6_toX e1) gX6_anyBelow_X6_toX rfl rfl rfl ndX6_toX ⟨Nat.le_of_ble_eq_true rfl, Nat.le_of_ble_eq_true rfl⟩ rfl hl.1 rfl (Nat.le_of_ble_eq_true rfl) dX6_anyBelow_2 ⟨Nat.zero_le _, Nat.zero_le _⟩) (fun H locs Y => ?_)
  refine lv_iconst (v := 0) X.1 X.2.1 dX6_anyBelow_5 (by decide) ?_
  refine lv_istore_n (lv' := [(3, .int (0 : Int32)), (0, .ref x0), (1, .int x1), (2, .int x2)]) X.1 X.2.1 dX6_anyBelow_6 rfl hl (by decide) rfl (fun ls hl => ?_)
  exact wX6_anyBelow_7 X  hp_n Y (lv_sub hl [1, 3, 0] rfl) hF

/-! WholeNumbersModel.hasBelow -/
def rmX6_hasBelow : Room := { frames := 3, cells := 0, slots := 0, locals := 69 }
def fX6_hasBelow (x0 : Nat) (x1 : Int32) (x2 : Int32) (h : hp_H) : Option (Int32 × hp_H) :=
  if hp_o h x0 6 = true then
  (hp_pv h x0 6 11 (.int (0 : Int32))).bind fun h1 =>
  (fX6_isRegister x1).bind fun v4 =>
  if v4 = 0 then (
    some ((0 : Int32), h1))
  else (
    (fX6_anyBelow x0 x1 x2 h1).bind fun (v8, h7) =>
    if v8 = 0 then (
      some ((0 : Int32), h7))
    else (
      some ((1 : Int32), h7)))
  else none
theorem inX6_hasBelow_X6 : ∀ w ∈ wsX60, w ∈ wsX6_hasBelow := by decide +kernel
theorem lkX6_hasBelow_f45 : Cond.fieldLink RX6 45 (TX6 11).1 (TX6 11).2.1 (TX6 11).2.2.1 ∈ wsX6_hasBelow := by decide +kernel
theorem ndX6_hasBelow : yX6_hasBelow.cls ≠ "java/lang/invoke/MethodHandle" ∧ yX6_hasBelow.cls ≠ "java/lang/invoke/VarHandle" ∧ (parseMethodDescriptor yX6_hasBelow.desc).map (fun d => d.parameters.length) = some 2 := by decide +kernel
theorem oX6_hasBelow {x0 : Nat} {x1 : Int32} {x2 : Int32} {h h' : hp_H} {r : Int32} (hF : fX6_hasBelow x0 x1 x2 h = some (r, h')) : hp_o h x0 6 = true := by
  unfold fX6_hasBelow at hF
  exact (hp_ift hF).1
set_option maxRecDepth 100000 in
set_option maxHeartbeats 4000000 in
theorem mX6_hasBelow (l : Launch) (G : hp_G) {x0 : Nat} {x1 : Int32} {x2 : Int32} {h h' : hp_H} {r : Int32} (hF : fX6_hasBelow x0 x1 x2 h = some (r, h')) : Met l yX6_hasBelow wsX6_hasBelow rmX6_hasBelow (va_Pc [.ref x0, .int x1, .int x2] (hp_S G h)) (va_Qi (fun r' u => r' = r ∧ u = h') (hp_B G h) (hp_A h)) 0 0 (hp_A h) := by
  refine hp_met (cc := cX6_hasBelow) (nL := 3) (ret := (some .boolean)) (by decide) rfl ?_
  intro p e s m below meth c X Y
  have hl := lv_entry ([.ref x0, .int x1, .int x2]) (n := 3) (Nat.le_of_ble_eq_true rfl)
  rw [lg_entry_eq]
  generalize (lg_sl ([.ref x0, .int x1, .int x2]) ++ List.replicate (3 - (lg_sl ([.ref x0, .int x1, .int x2])).length) Slot.unset).toArray = ls at hl ⊢
  have hl : lv_has ls 3 [(0, .ref x0), (1, .int x1), (2, .int x2)] := hl
  unfold fX6_hasBelow at hF
  obtain ⟨ho, hF⟩ := hp_ift hF
  refine lv_aload_n X.1 X.2.1 dX6_hasBelow_0 rfl (lv_at hl 0 rfl) ?_
  refine lv_iconst (v := 0) X.1 X.2.1 dX6_hasBelow_1 (by decide) ?_
  obtain ⟨h1, e2, hF⟩ := hp_b hF
  refine hp_put X Y (C := RX6) (T := TX6) (N := 14) (ci := 6) (k := 11) (ty0 := tyX6) rfl inX6_hasBelow_X6 tyX6_ok nmX6 (by decide) lkX6_hasBelow_f45 rfl rfl rfl e2 dX6_hasBelow_2 (fun H locs Y => ?_)
  refine lv_iload_n X.1 X.2.1 dX6_hasBelow_5 rfl (lv_at hl 1 rfl) ?_
  obtain ⟨v4, e3, hF⟩ := hp_b hF
  refine hp_ci Y (hp_runS X Y (As := [.int x1]) (n := 1) (mX6_isRegister l G e3) gX6_hasBelow_X6_isRegister rfl rfl rfl ndX6_isRegister ⟨Nat.le_of_ble_eq_true rfl, Nat.le_of_ble_eq_true rfl⟩ rfl hl.1 rfl (Nat.le_of_ble_eq_true rfl) dX6_hasBelow_6 ⟨Nat.zero_le _, Nat.zero_le _⟩) (fun H locs Y => ?_)
  refine lv_if_eq (tgt := 25) X.1 X.2.1 dX6_hasBelow_9 (by decide) (fun c5 => ?_) (fun c5 => ?_)
  · have hF := hp_ifp (c5) hF
    refine lv_iconst (v := 0) X.1 X.2.1 dX6_hasBelow_25 (by decide) ?_
    cases hF
    exact hp_ri X Y rfl rfl dX6_hasBelow_26
  · have hF := hp_ifn (c5) hF
    refine lv_aload_n X.1 X.2.1 dX6_hasBelow_12 rfl (lv_at hl 0 rfl) ?_
    refine lv_iload_n X.1 X.2.1 dX6_hasBelow_13 rfl (lv_at hl 1 rfl) ?_
    refine lv_iload_n X.1 X.2.1 dX6_hasBelow_14 rfl (lv_at hl 2 rfl) ?_
    obtain ⟨⟨v8, h7⟩, e6, hF⟩ := hp_b hF
    refine hp_ci Y (hp_runV X Y (ci := 6) (As := [.int x1, .int x2]) (n := 2) (T := TX6) (N := 14) (mX6_anyBelow l G e6) rfl (oX6_anyBelow e6) gX6_hasBelow_X6_anyBelow rfl rfl rfl ndX6_anyBelow ⟨Nat.le_of_ble_eq_true rfl, Nat.le_of_ble_eq_true rfl⟩ rfl hl.1 rfl (Nat.le_of_ble_eq_true rfl) dX6_hasBelow_15 ⟨Nat.zero_le _, Nat.zero_le _⟩) (fun H locs Y => ?_)
    refine lv_if_eq (tgt := 25) X.1 X.2.1 dX6_hasBelow_18 (by decide) (fun c10 => ?_) (fun c10 => ?_)
    · have hF := hp_ifp (c10) hF
      refine lv_iconst (v := 0) X.1 X.2.1 dX6_hasBelow_25 (by decide) ?_
      cases hF
      exact hp_ri X Y rfl rfl dX6_hasBelow_26
    · have hF := hp_ifn (c10) hF
      refine lv_iconst (v := 1) X.1 X.2.1 dX6_hasBelow_21 (by decide) ?_
      refine lv_goto (tgt := 26) X.1 X.2.1 dX6_hasBelow_22 (by decide) ?_
      cases hF
      exact hp_ri X Y rfl rfl dX6_hasBelow_26

/-! WholeNumbersModel.isLong -/
def rmX6_isLong : Room := { frames := 3, cells := 0, slots := 0, locals := 69 }
def fX6_isLong (x0 : Nat) (x1 : Int32) (h : hp_H) : Option (Int32 × hp_H) :=
  if hp_o h x0 6 = true then
  (fX6_bitsOf x0 x1 h).bind fun (v3, h2) =>
  if v3 < (64 : Int32) then (
    some ((1 : Int32), h2))
  else (
    if v3 = (64 : Int32) then (
      (hp_gr h2 x0 6 2).bind fun v7 =>
      (hp_ai h2 0 v7 x1).bind fun v9 =>
      if 0 ≤ v9 then (
        some ((0 : Int32), h2))
      else (
        (fX6_anyBelow x0 x1 (63 : Int32) h2).bind fun (v14, h13) =>
        if v14 = 0 then (
          some ((1 : Int32), h13))
        else (
          some ((0 : Int32), h13))))
    else (
      some ((0 : Int32), h2)))
  else none
theorem inX6_isLong_X6 : ∀ w ∈ wsX60, w ∈ wsX6_isLong := by decide +kernel
theorem lkX6_isLong_f16 : Cond.fieldLink RX6 16 (TX6 2).1 (TX6 2).2.1 (TX6 2).2.2.1 ∈ wsX6_isLong := by decide +kernel
theorem ndX6_isLong : yX6_isLong.cls ≠ "java/lang/invoke/MethodHandle" ∧ yX6_isLong.cls ≠ "java/lang/invoke/VarHandle" ∧ (parseMethodDescriptor yX6_isLong.desc).map (fun d => d.parameters.length) = some 1 := by decide +kernel
theorem oX6_isLong {x0 : Nat} {x1 : Int32} {h h' : hp_H} {r : Int32} (hF : fX6_isLong x0 x1 h = some (r, h')) : hp_o h x0 6 = true := by
  unfold fX6_isLong at hF
  exact (hp_ift hF).1
set_option maxRecDepth 100000 in
set_option maxHeartbeats 4000000 in
theorem mX6_isLong (l : Launch) (G : hp_G) {x0 : Nat} {x1 : Int32} {h h' : hp_H} {r : Int32} (hF : fX6_isLong x0 x1 h = some (r, h')) : Met l yX6_isLong wsX6_isLong rmX6_isLong (va_Pc [.ref x0, .int x1] (hp_S G h)) (va_Qi (fun r' u => r' = r ∧ u = h') (hp_B G h) (hp_A h)) 0 0 (hp_A h) := by
  refine hp_met (cc := cX6_isLong) (nL := 3) (ret := (some .boolean)) (by decide) rfl ?_
  intro p e s m below meth c X Y
  have hl := lv_entry ([.ref x0, .int x1]) (n := 3) (Nat.le_of_ble_eq_true rfl)
  rw [lg_entry_eq]
  generalize (lg_sl ([.ref x0, .int x1]) ++ List.replicate (3 - (lg_sl ([.ref x0, .int x1])).length) Slot.unset).toArray = ls at hl ⊢
  have hl : lv_has ls 3 [(0, .ref x0), (1, .int x1)] := hl
  unfold fX6_isLong at hF
  obtain ⟨ho, hF⟩ := hp_ift hF
  refine lv_aload_n X.1 X.2.1 dX6_isLong_0 rfl (lv_at hl 0 rfl) ?_
  refine lv_iload_n X.1 X.2.1 dX6_isLong_1 rfl (lv_at hl 1 rfl) ?_
  obtain ⟨⟨v3, h2⟩, e1, hF⟩ := hp_b hF
  refine hp_ci Y (hp_runV X Y (ci := 6) (As := [.int x1]) (n := 1) (T := TX6) (N := 14) (mX6_bitsOf l G e1) rfl (oX6_bitsOf e1) gX6_isLong_X6_bitsOf rfl rfl rfl ndX6_bitsOf ⟨Nat.le_of_ble_eq_true rfl, Nat.le_of_ble_eq_true rfl⟩ rfl hl.1 rfl (Nat.le_of_ble_eq_true rfl) dX6_isLong_2 ⟨Nat.zero_le _, Nat.zero_le _⟩) (fun H locs Y => ?_)
  refine lv_istore_n (lv' := [(2, .int v3), (0, .ref x0), (1, .int x1)]) X.1 X.2.1 dX6_isLong_5 rfl hl (by decide) rfl (fun ls hl => ?_)
  refine lv_iload_n X.1 X.2.1 dX6_isLong_6 rfl (lv_at hl 0 rfl) ?_
  refine lv_bipush (v := 64) X.1 X.2.1 dX6_isLong_7 (by decide) ?_
  refine lv_icmp_lt (tgt := 37) X.1 X.2.1 dX6_isLong_9 (by decide) (fun c5 => ?_) (fun c5 => ?_)
  · have hF := hp_ifp (c5) hF
    refine lv_iconst (v := 1) X.1 X.2.1 dX6_isLong_37 (by decide) ?_
    refine lv_goto (tgt := 42) X.1 X.2.1 dX6_isLong_38 (by decide) ?_
    cases hF
    exact hp_ri X Y rfl rfl dX6_isLong_42
  · have hF := hp_ifn (c5) hF
    refine lv_iload_n X.1 X.2.1 dX6_isLong_12 rfl (lv_at hl 0 rfl) ?_
    refine lv_bipush (v := 64) X.1 X.2.1 dX6_isLong_13 (by decide) ?_
    refine lv_icmp_ne (tgt := 41) X.1 X.2.1 dX6_isLong_15 (by decide) (fun c6 => ?_) (fun c6 => ?_)
    · have hF := hp_ifn (c6) hF
      refine lv_iconst (v := 0) X.1 X.2.1 dX6_isLong_41 (by decide) ?_
      cases hF
      exact hp_ri X Y rfl rfl dX6_isLong_42
    · have hF := hp_ifp (c6) hF
      refine lv_aload_n X.1 X.2.1 dX6_isLong_18 rfl (lv_at hl 1 rfl) ?_
      obtain ⟨v7, e8, hF⟩ := hp_b hF
      refine hp_getr X Y (C := RX6) (T := TX6) (N := 14) (ci := 6) (k := 2) rfl inX6_isLong_X6 (by decide) lkX6_isLong_f16 e8 dX6_isLong_19 ?_
      refine lv_iload_n X.1 X.2.1 dX6_isLong_22 rfl (lv_at hl 2 rfl) ?_
      obtain ⟨v9, e10, hF⟩ := hp_b hF
      refine hp_iald X Y e10 dX6_isLong_23 ?_
      refine lv_if_ge (tgt := 41) X.1 X.2.1 dX6_isLong_24 (by decide) (fun c11 => ?_) (fun c11 => ?_)
      · have hF := hp_ifp (c11) hF
        refine lv_iconst (v := 0) X.1 X.2.1 dX6_isLong_41 (by decide) ?_
        cases hF
        exact hp_ri X Y rfl rfl dX6_isLong_42
      · have hF := hp_ifn (c11) hF
        refine lv_aload_n X.1 X.2.1 dX6_isLong_27 rfl (lv_at hl 1 rfl) ?_
        refine lv_iload_n X.1 X.2.1 dX6_isLong_28 rfl (lv_at hl 2 rfl) ?_
        refine lv_bipush (v := 63) X.1 X.2.1 dX6_isLong_29 (by decide) ?_
        obtain ⟨⟨v14, h13⟩, e12, hF⟩ := hp_b hF
        refine hp_ci Y (hp_runV X Y (ci := 6) (As := [.int x1, .int (63 : Int32)]) (n := 2) (T := TX6) (N := 14) (mX6_anyBelow l G e12) rfl (oX6_anyBelow e12) gX6_isLong_X6_anyBelow rfl rfl rfl ndX6_anyBelow ⟨Nat.le_of_ble_eq_true rfl, Nat.le_of_ble_eq_true rfl⟩ rfl hl.1 rfl (Nat.le_of_ble_eq_true rfl) dX6_isLong_31 ⟨Nat.zero_le _, Nat.zero_le _⟩) (fun H locs Y => ?_)
        refine lv_if_ne (tgt := 41) X.1 X.2.1 dX6_isLong_34 (by decide) (fun c16 => ?_) (fun c16 => ?_)
        · have hF := hp_ifn (c16) hF
          refine lv_iconst (v := 0) X.1 X.2.1 dX6_isLong_41 (by decide) ?_
          cases hF
          exact hp_ri X Y rfl rfl dX6_isLong_42
        · have hF := hp_ifp (c16) hF
          refine lv_iconst (v := 1) X.1 X.2.1 dX6_isLong_37 (by decide) ?_
          refine lv_goto (tgt := 42) X.1 X.2.1 dX6_isLong_38 (by decide) ?_
          cases hF
          exact hp_ri X Y rfl rfl dX6_isLong_42

/-! WholeNumbersModel.low -/
def rmX6_low : Room := { frames := 4, cells := 0, slots := 0, locals := 91 }
def bX6_low_34  (x0 : Nat) (x1 : Int32) : Nat → Int64 → Int32 → hp_H → Option (Int64 × hp_H)
  | 0, _, _, _ => none
  | n + 1, x2, x4, h =>
  if x4 < 0 then (
    some (x2, h))
  else (
    (hp_gr h x0 6 2).bind fun v2 =>
    (hp_ai h 0 v2 x1).bind fun v4 =>
    (hp_gr h x0 6 0).bind fun v6 =>
    (hp_ai h 0 v6 (((320 : Int32) * x1) + x4)).bind fun v8 =>
    (some ((x2 * (10000 : Int64)) + (Int32.toInt64 (v4 * v8)))).bind fun v10 =>
    (some (x4 + (-1 : Int32))).bind fun v12 =>
    bX6_low_34 x0 x1 n v10 v12 h)
def fX6_low (x0 : Nat) (x1 : Int32) (h : hp_H) : Option (Int64 × hp_H) :=
  if hp_o h x0 6 = true then
  (hp_pv h x0 6 11 (.int (0 : Int32))).bind fun h1 =>
  (fX6_isRegister x1).bind fun v4 =>
  if v4 = 0 then (
    some ((0 : Int64), h1))
  else (
    (fX6_isLong x0 x1 h1).bind fun (v8, h7) =>
    if v8 = 0 then (
      some ((0 : Int64), h7))
    else (
      (hp_gr h7 x0 6 1).bind fun v11 =>
      (hp_ai h7 0 v11 x1).bind fun v13 =>
      (some (v13 - (1 : Int32))).bind fun v15 =>
      bX6_low_34 x0 x1 hp_n (0 : Int64) v15 h7))
  else none
theorem inX6_low_X6 : ∀ w ∈ wsX60, w ∈ wsX6_low := by decide +kernel
theorem lkX6_low_c81 : Cond.constantLong RX6 81 (10000) ∈ wsX6_low := by decide +kernel
theorem lkX6_low_f16 : Cond.fieldLink RX6 16 (TX6 2).1 (TX6 2).2.1 (TX6 2).2.2.1 ∈ wsX6_low := by decide +kernel
theorem lkX6_low_f7 : Cond.fieldLink RX6 7 (TX6 0).1 (TX6 0).2.1 (TX6 0).2.2.1 ∈ wsX6_low := by decide +kernel
theorem lkX6_low_f45 : Cond.fieldLink RX6 45 (TX6 11).1 (TX6 11).2.1 (TX6 11).2.2.1 ∈ wsX6_low := by decide +kernel
theorem lkX6_low_f13 : Cond.fieldLink RX6 13 (TX6 1).1 (TX6 1).2.1 (TX6 1).2.2.1 ∈ wsX6_low := by decide +kernel
theorem ndX6_low : yX6_low.cls ≠ "java/lang/invoke/MethodHandle" ∧ yX6_low.cls ≠ "java/lang/invoke/VarHandle" ∧ (parseMethodDescriptor yX6_low.desc).map (fun d => d.parameters.length) = some 1 := by decide +kernel
set_option maxRecDepth 100000 in
set_option maxHeartbeats 4000000 in
theorem wX6_low_34 {p : Program} {l : Launch} {e : Env} {s : State} {m : MethodId} {args : Array Value} {below : List Frame} {meth : Method} {c : Code} {G : hp_G} {h0 h' : hp_H} {r : Int64} (X : hp_X p s m args meth c cX6_low 5 RX6 wsX6_low (some .long) G)  {x0 : Nat} {x1 : Int32}   : ∀ (n : Nat) {x2 : Int64} {x4 : Int32} {h : hp_H} {H : Heap} {locs : List Loc} {ls : Array Slot} (Y : hp_Y G h h0 s H locs) (hl : lv_has ls 5 [(0, .ref x0), (1, .int x1), (2, .long x2), (4, .int x4)]) (hF : bX6_low_34 x0 x1 n x2 x4 h = some (r, h')), W p l e rmX6_low s m args below meth c H locs 0 0 (MQ below (va_Ql (fun r' u => r' = r ∧ u = h') (hp_B G h0) (hp_A h0)) args s 0 0 (hp_A h0)) (F0 m 34 ls []) := by
  intro n
  induction n with
  | zero =>
    intro x2 x4 h H locs ls Y hl hF
    exact absurd (show none = some _ from hF) (by simp)
  | succ n ih =>
    intro x2 x4 h H locs ls Y hl hF
    rw [bX6_low_34] at hF
    refine lv_iload X.1 X.2.1 dX6_low_34 (lv_at hl 3 rfl) ?_
    refine lv_if_lt (tgt := 73) X.1 X.2.1 dX6_low_36 (by decide) (fun c1 => ?_) (fun c1 => ?_)
    · have hF := hp_ifp (c1) hF
      refine lv_lload_n X.1 X.2.1 dX6_low_73 rfl (lv_at hl 2 rfl) ?_
      cases hF
      exact hp_rj X Y rfl dX6_low_74
    · have hF := hp_ifn (c1) hF
      refine lv_lload_n X.1 X.2.1 dX6_low_39 rfl (lv_at hl 2 rfl) ?_
      refine lv_ldc2 (v := 10000) X.1 X.2.1 X.2.2.2.1 (X.2.2.2.2.1 _ lkX6_low_c81) dX6_low_40 ?_
      refine lv_lmul X.1 X.2.1 dX6_low_43 ?_
      refine lv_aload_n X.1 X.2.1 dX6_low_44 rfl (lv_at hl 0 rfl) ?_
      obtain ⟨v2, e3, hF⟩ := hp_b hF
      refine hp_getr X Y (C := RX6) (T := TX6) (N := 14) (ci := 6) (k := 2) rfl inX6_low_X6 (by decide) lkX6_low_f16 e3 dX6_low_45 ?_
      refine lv_iload_n X.1 X.2.1 dX6_low_48 rfl (lv_at hl 1 rfl) ?_
      obtain ⟨v4, e5, hF⟩ := hp_b hF
      refine hp_iald X Y e5 dX6_low_49 ?_
      refine lv_aload_n X.1 X.2.1 dX6_low_50 rfl (lv_at hl 0 rfl) ?_
      obtain ⟨v6, e7, hF⟩ := hp_b hF
      refine hp_getr X Y (C := RX6) (T := TX6) (N := 14) (ci := 6) (k := 0) rfl inX6_low_X6 (by decide) lkX6_low_f7 e7 dX6_low_51 ?_
      refine lv_sipush (v := 320) X.1 X.2.1 dX6_low_54 (by decide) ?_
      refine lv_iload_n X.1 X.2.1 dX6_low_57 rfl (lv_at hl 1 rfl) ?_
      refine lv_imul X.1 X.2.1 dX6_low_58 ?_
      refine lv_iload X.1 X.2.1 dX6_low_59 (lv_at hl 3 rfl) ?_
      refine lv_iadd X.1 X.2.1 dX6_low_61 ?_
      obtain ⟨v8, e9, hF⟩ := hp_b hF
      refine hp_iald X Y e9 dX6_low_62 ?_
      refine lv_imul X.1 X.2.1 dX6_low_63 ?_
      refine lv_i2l (v := Int32.toInt64 (v4 * v8)) X.1 X.2.1 dX6_low_64 rfl ?_
      refine lv_ladd X.1 X.2.1 dX6_low_65 ?_
      obtain ⟨v10, e11, hF⟩ := hp_b hF
      refine hp_tj (Option.some.inj e11) ?_
      refine lv_lstore_n (lv' := [(2, .long v10), (0, .ref x0), (1, .int x1), (4, .int x4)]) X.1 X.2.1 dX6_low_66 rfl hl (by decide) rfl (fun ls hl => ?_)
      obtain ⟨v12, e13, hF⟩ := hp_b hF
      refine lv_iinc (v := v12) (lv' := [(4, .int v12), (2, .long v10), (0, .ref x0), (1, .int x1)]) X.1 X.2.1 dX6_low_67 hl (k := 3) rfl (Option.some.inj e13) (by decide) rfl (fun ls hl => ?_)
      refine lv_goto (tgt := 34) X.1 X.2.1 dX6_low_70 (by decide) ?_
      exact ih Y (lv_sub hl [2, 3, 1, 0] rfl) hF
theorem oX6_low {x0 : Nat} {x1 : Int32} {h h' : hp_H} {r : Int64} (hF : fX6_low x0 x1 h = some (r, h')) : hp_o h x0 6 = true := by
  unfold fX6_low at hF
  exact (hp_ift hF).1
set_option maxRecDepth 100000 in
set_option maxHeartbeats 4000000 in
theorem mX6_low (l : Launch) (G : hp_G) {x0 : Nat} {x1 : Int32} {h h' : hp_H} {r : Int64} (hF : fX6_low x0 x1 h = some (r, h')) : Met l yX6_low wsX6_low rmX6_low (va_Pc [.ref x0, .int x1] (hp_S G h)) (va_Ql (fun r' u => r' = r ∧ u = h') (hp_B G h) (hp_A h)) 0 0 (hp_A h) := by
  refine hp_met (cc := cX6_low) (nL := 5) (ret := (some .long)) (by decide) rfl ?_
  intro p e s m below meth c X Y
  have hl := lv_entry ([.ref x0, .int x1]) (n := 5) (Nat.le_of_ble_eq_true rfl)
  rw [lg_entry_eq]
  generalize (lg_sl ([.ref x0, .int x1]) ++ List.replicate (5 - (lg_sl ([.ref x0, .int x1])).length) Slot.unset).toArray = ls at hl ⊢
  have hl : lv_has ls 5 [(0, .ref x0), (1, .int x1)] := hl
  unfold fX6_low at hF
  obtain ⟨ho, hF⟩ := hp_ift hF
  refine lv_aload_n X.1 X.2.1 dX6_low_0 rfl (lv_at hl 0 rfl) ?_
  refine lv_iconst (v := 0) X.1 X.2.1 dX6_low_1 (by decide) ?_
  obtain ⟨h1, e2, hF⟩ := hp_b hF
  refine hp_put X Y (C := RX6) (T := TX6) (N := 14) (ci := 6) (k := 11) (ty0 := tyX6) rfl inX6_low_X6 tyX6_ok nmX6 (by decide) lkX6_low_f45 rfl rfl rfl e2 dX6_low_2 (fun H locs Y => ?_)
  refine lv_iload_n X.1 X.2.1 dX6_low_5 rfl (lv_at hl 1 rfl) ?_
  obtain ⟨v4, e3, hF⟩ := hp_b hF
  refine hp_ci Y (hp_runS X Y (As := [.int x1]) (n := 1) (mX6_isRegister l G e3) gX6_low_X6_isRegister rfl rfl rfl ndX6_isRegister ⟨Nat.le_of_ble_eq_true rfl, Nat.le_of_ble_eq_true rfl⟩ rfl hl.1 rfl (Nat.le_of_ble_eq_true rfl) dX6_low_6 ⟨Nat.zero_le _, Nat.zero_le _⟩) (fun H locs Y => ?_)
  refine lv_if_eq (tgt := 20) X.1 X.2.1 dX6_low_9 (by decide) (fun c5 => ?_) (fun c5 => ?_)
  · have hF := hp_ifp (c5) hF
    refine lv_lconst (v := 0) X.1 X.2.1 dX6_low_20 (by decide) ?_
    cases hF
    exact hp_rj X Y rfl dX6_low_21
  · have hF := hp_ifn (c5) hF
    refine lv_aload_n X.1 X.2.1 dX6_low_12 rfl (lv_at hl 0 rfl) ?_
    refine lv_iload_n X.1 X.2.1 dX6_low_13 rfl (lv_at hl 1 rfl) ?_
    obtain ⟨⟨v8, h7⟩, e6, hF⟩ := hp_b hF
    refine hp_ci Y (hp_runV X Y (ci := 6) (As := [.int x1]) (n := 1) (T := TX6) (N := 14) (mX6_isLong l G e6) rfl (oX6_isLong e6) gX6_low_X6_isLong rfl rfl rfl ndX6_isLong ⟨Nat.le_of_ble_eq_true rfl, Nat.le_of_ble_eq_true rfl⟩ rfl hl.1 rfl (Nat.le_of_ble_eq_true rfl) dX6_low_14 ⟨Nat.zero_le _, Nat.zero_le _⟩) (fun H locs Y => ?_)
    refine lv_if_ne (tgt := 22) X.1 X.2.1 dX6_low_17 (by decide) (fun c10 => ?_) (fun c10 => ?_)
    · have hF := hp_ifn (c10) hF
      refine lv_lconst (v := 0) X.1 X.2.1 dX6_low_22 (by decide) ?_
      refine lv_lstore_n (lv' := [(2, .long (0 : Int64)), (0, .ref x0), (1, .int x1)]) X.1 X.2.1 dX6_low_23 rfl hl (by decide) rfl (fun ls hl => ?_)
      refine lv_aload_n X.1 X.2.1 dX6_low_24 rfl (lv_at hl 1 rfl) ?_
      obtain ⟨v11, e12, hF⟩ := hp_b hF
      refine hp_getr X Y (C := RX6) (T := TX6) (N := 14) (ci := 6) (k := 1) rfl inX6_low_X6 (by decide) lkX6_low_f13 e12 dX6_low_25 ?_
      refine lv_iload_n X.1 X.2.1 dX6_low_28 rfl (lv_at hl 2 rfl) ?_
      obtain ⟨v13, e14, hF⟩ := hp_b hF
      refine hp_iald X Y e14 dX6_low_29 ?_
      refine lv_iconst (v := 1) X.1 X.2.1 dX6_low_30 (by decide) ?_
      refine lv_isub X.1 X.2.1 dX6_low_31 ?_
      obtain ⟨v15, e16, hF⟩ := hp_b hF
      refine hp_ti (Option.some.inj e16) ?_
      refine lv_istore (lv' := [(4, .int v15), (2, .long (0 : Int64)), (0, .ref x0), (1, .int x1)]) X.1 X.2.1 dX6_low_32 hl (by decide) rfl (fun ls hl => ?_)
      exact wX6_low_34 X  hp_n Y (lv_sub hl [2, 3, 1, 0] rfl) hF
    · have hF := hp_ifp (c10) hF
      refine lv_lconst (v := 0) X.1 X.2.1 dX6_low_20 (by decide) ?_
      cases hF
      exact hp_rj X Y rfl dX6_low_21

/-! WholeNumbersModel.fits -/
def rmX6_fits : Room := { frames := 4, cells := 0, slots := 0, locals := 91 }
def fX6_fits (x0 : Nat) (x1 : Int32) (h : hp_H) : Option (Int32 × hp_H) :=
  if hp_o h x0 6 = true then
  (hp_pv h x0 6 11 (.int (0 : Int32))).bind fun h1 =>
  (fX6_isRegister x1).bind fun v4 =>
  if v4 = 0 then (
    some ((0 : Int32), h1))
  else (
    (fX6_isLong x0 x1 h1).bind fun (v8, h7) =>
    if v8 = 0 then (
      some ((0 : Int32), h7))
    else (
      some ((1 : Int32), h7)))
  else none
theorem inX6_fits_X6 : ∀ w ∈ wsX60, w ∈ wsX6_fits := by decide +kernel
theorem lkX6_fits_f45 : Cond.fieldLink RX6 45 (TX6 11).1 (TX6 11).2.1 (TX6 11).2.2.1 ∈ wsX6_fits := by decide +kernel
theorem ndX6_fits : yX6_fits.cls ≠ "java/lang/invoke/MethodHandle" ∧ yX6_fits.cls ≠ "java/lang/invoke/VarHandle" ∧ (parseMethodDescriptor yX6_fits.desc).map (fun d => d.parameters.length) = some 1 := by decide +kernel
theorem oX6_fits {x0 : Nat} {x1 : Int32} {h h' : hp_H} {r : Int32} (hF : fX6_fits x0 x1 h = some (r, h')) : hp_o h x0 6 = true := by
  unfold fX6_fits at hF
  exact (hp_ift hF).1
set_option maxRecDepth 100000 in
set_option maxHeartbeats 4000000 in
theorem mX6_fits (l : Launch) (G : hp_G) {x0 : Nat} {x1 : Int32} {h h' : hp_H} {r : Int32} (hF : fX6_fits x0 x1 h = some (r, h')) : Met l yX6_fits wsX6_fits rmX6_fits (va_Pc [.ref x0, .int x1] (hp_S G h)) (va_Qi (fun r' u => r' = r ∧ u = h') (hp_B G h) (hp_A h)) 0 0 (hp_A h) := by
  refine hp_met (cc := cX6_fits) (nL := 2) (ret := (some .boolean)) (by decide) rfl ?_
  intro p e s m below meth c X Y
  have hl := lv_entry ([.ref x0, .int x1]) (n := 2) (Nat.le_of_ble_eq_true rfl)
  rw [lg_entry_eq]
  generalize (lg_sl ([.ref x0, .int x1]) ++ List.replicate (2 - (lg_sl ([.ref x0, .int x1])).length) Slot.unset).toArray = ls at hl ⊢
  have hl : lv_has ls 2 [(0, .ref x0), (1, .int x1)] := hl
  unfold fX6_fits at hF
  obtain ⟨ho, hF⟩ := hp_ift hF
  refine lv_aload_n X.1 X.2.1 dX6_fits_0 rfl (lv_at hl 0 rfl) ?_
  refine lv_iconst (v := 0) X.1 X.2.1 dX6_fits_1 (by decide) ?_
  obtain ⟨h1, e2, hF⟩ := hp_b hF
  refine hp_put X Y (C := RX6) (T := TX6) (N := 14) (ci := 6) (k := 11) (ty0 := tyX6) rfl inX6_fits_X6 tyX6_ok nmX6 (by decide) lkX6_fits_f45 rfl rfl rfl e2 dX6_fits_2 (fun H locs Y => ?_)
  refine lv_iload_n X.1 X.2.1 dX6_fits_5 rfl (lv_at hl 1 rfl) ?_
  obtain ⟨v4, e3, hF⟩ := hp_b hF
  refine hp_ci Y (hp_runS X Y (As := [.int x1]) (n := 1) (mX6_isRegister l G e3) gX6_fits_X6_isRegister rfl rfl rfl ndX6_isRegister ⟨Nat.le_of_ble_eq_true rfl, Nat.le_of_ble_eq_true rfl⟩ rfl hl.1 rfl (Nat.le_of_ble_eq_true rfl) dX6_fits_6 ⟨Nat.zero_le _, Nat.zero_le _⟩) (fun H locs Y => ?_)
  refine lv_if_eq (tgt := 24) X.1 X.2.1 dX6_fits_9 (by decide) (fun c5 => ?_) (fun c5 => ?_)
  · have hF := hp_ifp (c5) hF
    refine lv_iconst (v := 0) X.1 X.2.1 dX6_fits_24 (by decide) ?_
    cases hF
    exact hp_ri X Y rfl rfl dX6_fits_25
  · have hF := hp_ifn (c5) hF
    refine lv_aload_n X.1 X.2.1 dX6_fits_12 rfl (lv_at hl 0 rfl) ?_
    refine lv_iload_n X.1 X.2.1 dX6_fits_13 rfl (lv_at hl 1 rfl) ?_
    obtain ⟨⟨v8, h7⟩, e6, hF⟩ := hp_b hF
    refine hp_ci Y (hp_runV X Y (ci := 6) (As := [.int x1]) (n := 1) (T := TX6) (N := 14) (mX6_isLong l G e6) rfl (oX6_isLong e6) gX6_fits_X6_isLong rfl rfl rfl ndX6_isLong ⟨Nat.le_of_ble_eq_true rfl, Nat.le_of_ble_eq_true rfl⟩ rfl hl.1 rfl (Nat.le_of_ble_eq_true rfl) dX6_fits_14 ⟨Nat.zero_le _, Nat.zero_le _⟩) (fun H locs Y => ?_)
    refine lv_if_eq (tgt := 24) X.1 X.2.1 dX6_fits_17 (by decide) (fun c10 => ?_) (fun c10 => ?_)
    · have hF := hp_ifp (c10) hF
      refine lv_iconst (v := 0) X.1 X.2.1 dX6_fits_24 (by decide) ?_
      cases hF
      exact hp_ri X Y rfl rfl dX6_fits_25
    · have hF := hp_ifn (c10) hF
      refine lv_iconst (v := 1) X.1 X.2.1 dX6_fits_20 (by decide) ?_
      refine lv_goto (tgt := 25) X.1 X.2.1 dX6_fits_21 (by decide) ?_
      cases hF
      exact hp_ri X Y rfl rfl dX6_fits_25

/-! WholeNumbersModel.write -/
def rmX6_write : Room := { frames := 1, cells := 0, slots := 0, locals := 22 }
def bX6_write_168  (x0 : Nat) (x3 : Int32) : Nat → Int32 → hp_H → Option (Int32 × hp_H)
  | 0, _, _ => none
  | n + 1, x4, h =>
  if (x3 / (2 : Int32)) ≤ x4 then (
    (hp_pv h x0 6 13 (.int x3)).bind fun h2 =>
    some (x3, h2))
  else (
    (hp_gr h x0 6 12).bind fun v4 =>
    (hp_ai h 0 v4 x4).bind fun v6 =>
    (hp_gr h x0 6 12).bind fun v8 =>
    (hp_gr h x0 6 12).bind fun v10 =>
    (hp_ai h 0 v10 ((x3 - (1 : Int32)) - x4)).bind fun v12 =>
    (hp_si h 0 v8 x4 v12).bind fun h14 =>
    (hp_gr h14 x0 6 12).bind fun v16 =>
    (hp_si h14 0 v16 ((x3 - (1 : Int32)) - x4) v6).bind fun h18 =>
    (some (x4 + (1 : Int32))).bind fun v20 =>
    bX6_write_168 x0 x3 n v20 h18)
def bX6_write_165  (x0 : Nat) (x3 : Int32)  (h : hp_H) : Option (Int32 × hp_H) :=
  bX6_write_168 x0 x3 hp_n (0 : Int32) h
def bX6_write_138 (k32 : Int32 → hp_H → Option (Int32 × hp_H)) (x0 : Nat) (x1 : Int32) (x2 : Int32) (x3 : Int32) (t0 : Nat) (t1 : Int32) (t2 : Int32) (h : hp_H) : Option (Int32 × hp_H) :=
  (hp_si h 0 t0 t1 t2).bind fun h1 =>
  (some (x3 + (1 : Int32))).bind fun v3 =>
  k32 v3 h1
def bX6_write_54 (k32 : Int32 → hp_H → Option (Int32 × hp_H)) (x0 : Nat) (x1 : Int32) (x2 : Int32) (x3 : Int32) : Nat → Int32 → Int32 → hp_H → Option (Int32 × hp_H)
  | 0, _, _, _ => none
  | n + 1, x4, x5, h =>
  if x5 < 0 then (
    (hp_gr h x0 6 5).bind fun v2 =>
    (hp_gi h x0 6 8).bind fun v4 =>
    (fX6_shortened v2 v4 h).bind fun v7 =>
    (hp_pv h x0 6 8 (.int v7)).bind fun h8 =>
    (hp_gr h8 x0 6 12).bind fun v10 =>
    if (10 : Int32) ≤ x4 then (
      bX6_write_138 k32 x0 x1 x2 x3 v10 x3 ((87 : Int32) + x4) h8)
    else (
      bX6_write_138 k32 x0 x1 x2 x3 v10 x3 ((48 : Int32) + x4) h8))
  else (
    (hp_gr h x0 6 5).bind fun v13 =>
    (hp_ai h 0 v13 x5).bind fun v15 =>
    (some ((x4 * (10000 : Int32)) + v15)).bind fun v17 =>
    (hp_gr h x0 6 5).bind fun v19 =>
    if ¬ x2 = 0 then
    (hp_si h 0 v19 x5 (v17 / x2)).bind fun h22 =>
    if ¬ x2 = 0 then
    (some (hp_irem v17 x2)).bind fun v25 =>
    (some (x5 + (-1 : Int32))).bind fun v27 =>
    bX6_write_54 k32 x0 x1 x2 x3 n v25 v27 h22
    else none
    else none)
def bX6_write_43 (k32 : Int32 → hp_H → Option (Int32 × hp_H)) (x0 : Nat) (x1 : Int32) (x2 : Int32) (x3 : Int32)  (h : hp_H) : Option (Int32 × hp_H) :=
  (hp_gi h x0 6 8).bind fun v1 =>
  (some (v1 - (1 : Int32))).bind fun v3 =>
  bX6_write_54 k32 x0 x1 x2 x3 hp_n (0 : Int32) v3 h
def bX6_write_32  (x0 : Nat) (x1 : Int32) (x2 : Int32) : Nat → Int32 → hp_H → Option (Int32 × hp_H)
  | 0, _, _ => none
  | n + 1, x3, h =>
  (hp_gi h x0 6 8).bind fun v1 =>
  if 0 < v1 then (
    bX6_write_43 (bX6_write_32 x0 x1 x2 n) x0 x1 x2 x3 h)
  else (
    if x3 = 0 then (
      bX6_write_43 (bX6_write_32 x0 x1 x2 n) x0 x1 x2 x3 h)
    else (
      (hp_gr h x0 6 2).bind fun v5 =>
      (hp_ai h 0 v5 x1).bind fun v7 =>
      if 0 ≤ v7 then (
        bX6_write_165 x0 x3 h)
      else (
        (hp_gr h x0 6 12).bind fun v10 =>
        (hp_si h 0 v10 x3 (45 : Int32)).bind fun h12 =>
        (some (x3 + (1 : Int32))).bind fun v14 =>
        bX6_write_165 x0 v14 h12)))
def fX6_write (x0 : Nat) (x1 : Int32) (x2 : Int32) (h : hp_H) : Option (Int32 × hp_H) :=
  if hp_o h x0 6 = true then
  (hp_pv h x0 6 11 (.int (0 : Int32))).bind fun h1 =>
  (fX6_isRegister x1).bind fun v4 =>
  if v4 = 0 then (
    some ((-1 : Int32), h1))
  else (
    if x2 < (2 : Int32) then (
      some ((-1 : Int32), h1))
    else (
      if x2 ≤ (16 : Int32) then (
        (fX6_toX x0 x1 h1).bind fun h9 =>
        bX6_write_32 x0 x1 x2 hp_n (0 : Int32) h9)
      else (
        some ((-1 : Int32), h1))))
  else none
theorem inX6_write_X6 : ∀ w ∈ wsX60, w ∈ wsX6_write := by decide +kernel
theorem lkX6_write_f123 : Cond.fieldLink RX6 123 (TX6 13).1 (TX6 13).2.1 (TX6 13).2.2.1 ∈ wsX6_write := by decide +kernel
theorem lkX6_write_f31 : Cond.fieldLink RX6 31 (TX6 12).1 (TX6 12).2.1 (TX6 12).2.2.1 ∈ wsX6_write := by decide +kernel
theorem lkX6_write_f22 : Cond.fieldLink RX6 22 (TX6 5).1 (TX6 5).2.1 (TX6 5).2.2.1 ∈ wsX6_write := by decide +kernel
theorem lkX6_write_f34 : Cond.fieldLink RX6 34 (TX6 8).1 (TX6 8).2.1 (TX6 8).2.2.1 ∈ wsX6_write := by decide +kernel
theorem lkX6_write_f16 : Cond.fieldLink RX6 16 (TX6 2).1 (TX6 2).2.1 (TX6 2).2.2.1 ∈ wsX6_write := by decide +kernel
theorem lkX6_write_f45 : Cond.fieldLink RX6 45 (TX6 11).1 (TX6 11).2.1 (TX6 11).2.2.1 ∈ wsX6_write := by decide +kernel
theorem ndX6_write : yX6_write.cls ≠ "java/lang/invoke/MethodHandle" ∧ yX6_write.cls ≠ "java/lang/invoke/VarHandle" ∧ (parseMethodDescriptor yX6_write.desc).map (fun d => d.parameters.length) = some 2 := by decide +kernel
set_option maxRecDepth 100000 in
set_option maxHeartbeats 4000000 in
theorem wX6_write_168 {p : Program} {l : Launch} {e : Env} {s : State} {m : MethodId} {args : Array Value} {below : List Frame} {meth : Method} {c : Code} {G : hp_G} {h0 h' : hp_H} {r : Int32} (X : hp_X p s m args meth c cX6_write 7 RX6 wsX6_write (some .int) G)  {x0 : Nat} {x3 : Int32}   : ∀ (n : Nat) {x4 : Int32} {h : hp_H} {H : Heap} {locs : List Loc} {ls : Array Slot} (Y : hp_Y G h h0 s H locs) (hl : lv_has ls 7 [(0, .ref x0), (3, .int x3), (4, .int x4)]) (hF : bX6_write_168 x0 x3 n x4 h = some (r, h')), W p l e rmX6_write s m args below meth c H locs 0 0 (MQ below (va_Qi (fun r' u => r' = r ∧ u = h') (hp_B G h0) (hp_A h0)) args s 0 0 (hp_A h0)) (F0 m 168 ls []) := by
  intro n
  induction n with
  | zero =>
    intro x4 h H locs ls Y hl hF
    exact absurd (show none = some _ from hF) (by simp)
  | succ n ih =>
    intro x4 h H locs ls Y hl hF
    rw [bX6_write_168] at hF
    refine lv_iload X.1 X.2.1 dX6_write_168 (lv_at hl 2 rfl) ?_
    refine lv_iload_n X.1 X.2.1 dX6_write_170 rfl (lv_at hl 1 rfl) ?_
    refine lv_iconst (v := 2) X.1 X.2.1 dX6_write_171 (by decide) ?_
    refine lv_idiv X.1 X.2.1 dX6_write_172 (by decide) ?_
    refine lv_icmp_ge (tgt := 222) X.1 X.2.1 dX6_write_173 (by decide) (fun c1 => ?_) (fun c1 => ?_)
    · have hF := hp_ifp (c1) hF
      refine lv_aload_n X.1 X.2.1 dX6_write_222 rfl (lv_at hl 0 rfl) ?_
      refine lv_iload_n X.1 X.2.1 dX6_write_223 rfl (lv_at hl 1 rfl) ?_
      obtain ⟨h2, e3, hF⟩ := hp_b hF
      refine hp_put X Y (C := RX6) (T := TX6) (N := 14) (ci := 6) (k := 13) (ty0 := tyX6) rfl inX6_write_X6 tyX6_ok nmX6 (by decide) lkX6_write_f123 rfl rfl rfl e3 dX6_write_224 (fun H locs Y => ?_)
      refine lv_iload_n X.1 X.2.1 dX6_write_227 rfl (lv_at hl 1 rfl) ?_
      cases hF
      exact hp_ri X Y rfl rfl dX6_write_228
    · have hF := hp_ifn (c1) hF
      refine lv_aload_n X.1 X.2.1 dX6_write_176 rfl (lv_at hl 0 rfl) ?_
      obtain ⟨v4, e5, hF⟩ := hp_b hF
      refine hp_getr X Y (C := RX6) (T := TX6) (N := 14) (ci := 6) (k := 12) rfl inX6_write_X6 (by decide) lkX6_write_f31 e5 dX6_write_177 ?_
      refine lv_iload X.1 X.2.1 dX6_write_180 (lv_at hl 2 rfl) ?_
      obtain ⟨v6, e7, hF⟩ := hp_b hF
      refine hp_iald X Y e7 dX6_write_182 ?_
      refine lv_istore (lv' := [(5, .int v6), (0, .ref x0), (3, .int x3), (4, .int x4)]) X.1 X.2.1 dX6_write_183 hl (by decide) rfl (fun ls hl => ?_)
      refine lv_aload_n X.1 X.2.1 dX6_write_185 rfl (lv_at hl 1 rfl) ?_
      obtain ⟨v8, e9, hF⟩ := hp_b hF
      refine hp_getr X Y (C := RX6) (T := TX6) (N := 14) (ci := 6) (k := 12) rfl inX6_write_X6 (by decide) lkX6_write_f31 e9 dX6_write_186 ?_
      refine lv_iload X.1 X.2.1 dX6_write_189 (lv_at hl 3 rfl) ?_
      refine lv_aload_n X.1 X.2.1 dX6_write_191 rfl (lv_at hl 1 rfl) ?_
      obtain ⟨v10, e11, hF⟩ := hp_b hF
      refine hp_getr X Y (C := RX6) (T := TX6) (N := 14) (ci := 6) (k := 12) rfl inX6_write_X6 (by decide) lkX6_write_f31 e11 dX6_write_192 ?_
      refine lv_iload_n X.1 X.2.1 dX6_write_195 rfl (lv_at hl 2 rfl) ?_
      refine lv_iconst (v := 1) X.1 X.2.1 dX6_write_196 (by decide) ?_
      refine lv_isub X.1 X.2.1 dX6_write_197 ?_
      refine lv_iload X.1 X.2.1 dX6_write_198 (lv_at hl 3 rfl) ?_
      refine lv_isub X.1 X.2.1 dX6_write_200 ?_
      obtain ⟨v12, e13, hF⟩ := hp_b hF
      refine hp_iald X Y e13 dX6_write_201 ?_
      obtain ⟨h14, e15, hF⟩ := hp_b hF
      refine hp_iast X Y e15 dX6_write_202 (fun H locs Y => ?_)
      refine lv_aload_n X.1 X.2.1 dX6_write_203 rfl (lv_at hl 1 rfl) ?_
      obtain ⟨v16, e17, hF⟩ := hp_b hF
      refine hp_getr X Y (C := RX6) (T := TX6) (N := 14) (ci := 6) (k := 12) rfl inX6_write_X6 (by decide) lkX6_write_f31 e17 dX6_write_204 ?_
      refine lv_iload_n X.1 X.2.1 dX6_write_207 rfl (lv_at hl 2 rfl) ?_
      refine lv_iconst (v := 1) X.1 X.2.1 dX6_write_208 (by decide) ?_
      refine lv_isub X.1 X.2.1 dX6_write_209 ?_
      refine lv_iload X.1 X.2.1 dX6_write_210 (lv_at hl 3 rfl) ?_
      refine lv_isub X.1 X.2.1 dX6_write_212 ?_
      refine lv_iload X.1 X.2.1 dX6_write_213 (lv_at hl 0 rfl) ?_
      obtain ⟨h18, e19, hF⟩ := hp_b hF
      refine hp_iast X Y e19 dX6_write_215 (fun H locs Y => ?_)
      obtain ⟨v20, e21, hF⟩ := hp_b hF
      refine lv_iinc (v := v20) (lv' := [(4, .int v20), (5, .int v6), (0, .ref x0), (3, .int x3)]) X.1 X.2.1 dX6_write_216 hl (k := 3) rfl (Option.some.inj e21) (by decide) rfl (fun ls hl => ?_)
      refine lv_goto (tgt := 168) X.1 X.2.1 dX6_write_219 (by decide) ?_
      exact ih Y (lv_sub hl [2, 3, 0] rfl) hF
set_option maxRecDepth 100000 in
set_option maxHeartbeats 4000000 in
theorem wX6_write_165 {p : Program} {l : Launch} {e : Env} {s : State} {m : MethodId} {args : Array Value} {below : List Frame} {meth : Method} {c : Code} {G : hp_G} {h0 h' : hp_H} {r : Int32} (X : hp_X p s m args meth c cX6_write 7 RX6 wsX6_write (some .int) G)  {x0 : Nat} {x3 : Int32}   {h : hp_H} {H : Heap} {locs : List Loc} {ls : Array Slot} (Y : hp_Y G h h0 s H locs) (hl : lv_has ls 7 [(0, .ref x0), (3, .int x3)]) (hF : bX6_write_165 x0 x3 h = some (r, h')) : W p l e rmX6_write s m args below meth c H locs 0 0 (MQ below (va_Qi (fun r' u => r' = r ∧ u = h') (hp_B G h0) (hp_A h0)) args s 0 0 (hp_A h0)) (F0 m 165 ls []) := by
  unfold bX6_write_165 at hF
  refine lv_iconst (v := 0) X.1 X.2.1 dX6_write_165 (by decide) ?_
  refine lv_istore (lv' := [(4, .int (0 : Int32)), (0, .ref x0), (3, .int x3)]) X.1 X.2.1 dX6_write_166 hl (by decide) rfl (fun ls hl => ?_)
  exact wX6_write_168 X  hp_n Y (lv_sub hl [1, 2, 0] rfl) hF
set_option maxRecDepth 100000 in
set_option maxHeartbeats 4000000 in
theorem wX6_write_138 {p : Program} {l : Launch} {e : Env} {s : State} {m : MethodId} {args : Array Value} {below : List Frame} {meth : Method} {c : Code} {G : hp_G} {h0 h' : hp_H} {r : Int32} (X : hp_X p s m args meth c cX6_write 7 RX6 wsX6_write (some .int) G) {k32 : Int32 → hp_H → Option (Int32 × hp_H)} {x0 : Nat} {x1 : Int32} {x2 : Int32} {x3 : Int32}  (hk32 : ∀ (y3 : Int32) (h : hp_H) (H : Heap) (locs : List Loc) (ls : Array Slot), hp_Y G h h0 s H locs → lv_has ls 7 [(0, .ref x0), (1, .int x1), (2, .int x2), (3, .int y3)] → k32 y3 h = some (r, h') → W p l e rmX6_write s m args below meth c H locs 0 0 (MQ below (va_Qi (fun r' u => r' = r ∧ u = h') (hp_B G h0) (hp_A h0)) args s 0 0 (hp_A h0)) (F0 m 32 ls [])) {t0 : Nat} {t1 : Int32} {t2 : Int32} {h : hp_H} {H : Heap} {locs : List Loc} {ls : Array Slot} (Y : hp_Y G h h0 s H locs) (hl : lv_has ls 7 [(0, .ref x0), (1, .int x1), (2, .int x2), (3, .int x3)]) (hF : bX6_write_138 k32 x0 x1 x2 x3 t0 t1 t2 h = some (r, h')) : W p l e rmX6_write s m args below meth c H locs 0 0 (MQ below (va_Qi (fun r' u => r' = r ∧ u = h') (hp_B G h0) (hp_A h0)) args s 0 0 (hp_A h0)) (F0 m 138 ls [.int t2, .int t1, .ref t0]) := by
  unfold bX6_write_138 at hF
  obtain ⟨h1, e2, hF⟩ := hp_b hF
  refine hp_iast X Y e2 dX6_write_138 (fun H locs Y => ?_)
  obtain ⟨v3, e4, hF⟩ := hp_b hF
  refine lv_iinc (v := v3) (lv' := [(3, .int v3), (0, .ref x0), (1, .int x1), (2, .int x2)]) X.1 X.2.1 dX6_write_139 hl (k := 3) rfl (Option.some.inj e4) (by decide) rfl (fun ls hl => ?_)
  refine lv_goto (tgt := 32) X.1 X.2.1 dX6_write_142 (by decide) ?_
  exact hk32 _ _  _ _ _ Y (lv_sub hl [1, 2, 3, 0] rfl) hF
set_option maxRecDepth 100000 in
set_option maxHeartbeats 4000000 in
theorem wX6_write_54 {p : Program} {l : Launch} {e : Env} {s : State} {m : MethodId} {args : Array Value} {below : List Frame} {meth : Method} {c : Code} {G : hp_G} {h0 h' : hp_H} {r : Int32} (X : hp_X p s m args meth c cX6_write 7 RX6 wsX6_write (some .int) G) {k32 : Int32 → hp_H → Option (Int32 × hp_H)} {x0 : Nat} {x1 : Int32} {x2 : Int32} {x3 : Int32}  (hk32 : ∀ (y3 : Int32) (h : hp_H) (H : Heap) (locs : List Loc) (ls : Array Slot), hp_Y G h h0 s H locs → lv_has ls 7 [(0, .ref x0), (1, .int x1), (2, .int x2), (3, .int y3)] → k32 y3 h = some (r, h') → W p l e rmX6_write s m args below meth c H locs 0 0 (MQ below (va_Qi (fun r' u => r' = r ∧ u = h') (hp_B G h0) (hp_A h0)) args s 0 0 (hp_A h0)) (F0 m 32 ls [])) : ∀ (n : Nat) {x4 : Int32} {x5 : Int32} {h : hp_H} {H : Heap} {locs : List Loc} {ls : Array Slot} (Y : hp_Y G h h0 s H locs) (hl : lv_has ls 7 [(0, .ref x0), (1, .int x1), (2, .int x2), (3, .int x3), (4, .int x4), (5, .int x5)]) (hF : bX6_write_54 k32 x0 x1 x2 x3 n x4 x5 h = some (r, h')), W p l e rmX6_write s m args below meth c H locs 0 0 (MQ below (va_Qi (fun r' u => r' = r ∧ u = h') (hp_B G h0) (hp_A h0)) args s 0 0 (hp_A h0)) (F0 m 54 ls []) := by
  intro n
  induction n with
  | zero =>
    intro x4 x5 h H locs ls Y hl hF
    exact absurd (show none = some _ from hF) (by simp)
  | succ n ih =>
    intro x4 x5 h H locs ls Y hl hF
    rw [bX6_write_54] at hF
    refine lv_iload X.1 X.2.1 dX6_write_54 (lv_at hl 5 rfl) ?_
    refine lv_if_lt (tgt := 98) X.1 X.2.1 dX6_write_56 (by decide) (fun c1 => ?_) (fun c1 => ?_)
    · have hF := hp_ifp (c1) hF
      refine lv_aload_n X.1 X.2.1 dX6_write_98 rfl (lv_at hl 0 rfl) ?_
      refine lv_aload_n X.1 X.2.1 dX6_write_99 rfl (lv_at hl 0 rfl) ?_
      obtain ⟨v2, e3, hF⟩ := hp_b hF
      refine hp_getr X Y (C := RX6) (T := TX6) (N := 14) (ci := 6) (k := 5) rfl inX6_write_X6 (by decide) lkX6_write_f22 e3 dX6_write_100 ?_
      refine lv_aload_n X.1 X.2.1 dX6_write_103 rfl (lv_at hl 0 rfl) ?_
      obtain ⟨v4, e5, hF⟩ := hp_b hF
      refine hp_geti X Y (C := RX6) (T := TX6) (N := 14) (ci := 6) (k := 8) rfl inX6_write_X6 (by decide) lkX6_write_f34 e5 dX6_write_104 ?_
      obtain ⟨v7, e6, hF⟩ := hp_b hF
      refine hp_ci Y (hp_runS X Y (As := [.ref v2, .int v4]) (n := 2) (mX6_shortened l G e6) gX6_write_X6_shortened rfl rfl rfl ndX6_shortened ⟨Nat.le_of_ble_eq_true rfl, Nat.le_of_ble_eq_true rfl⟩ rfl hl.1 rfl (Nat.le_of_ble_eq_true rfl) dX6_write_107 ⟨Nat.zero_le _, Nat.zero_le _⟩) (fun H locs Y => ?_)
      obtain ⟨h8, e9, hF⟩ := hp_b hF
      refine hp_put X Y (C := RX6) (T := TX6) (N := 14) (ci := 6) (k := 8) (ty0 := tyX6) rfl inX6_write_X6 tyX6_ok nmX6 (by decide) lkX6_write_f34 rfl rfl rfl e9 dX6_write_110 (fun H locs Y => ?_)
      refine lv_aload_n X.1 X.2.1 dX6_write_113 rfl (lv_at hl 0 rfl) ?_
      obtain ⟨v10, e11, hF⟩ := hp_b hF
      refine hp_getr X Y (C := RX6) (T := TX6) (N := 14) (ci := 6) (k := 12) rfl inX6_write_X6 (by decide) lkX6_write_f31 e11 dX6_write_114 ?_
      refine lv_iload_n X.1 X.2.1 dX6_write_117 rfl (lv_at hl 3 rfl) ?_
      refine lv_iload X.1 X.2.1 dX6_write_118 (lv_at hl 4 rfl) ?_
      refine lv_bipush (v := 10) X.1 X.2.1 dX6_write_120 (by decide) ?_
      refine lv_icmp_ge (tgt := 133) X.1 X.2.1 dX6_write_122 (by decide) (fun c12 => ?_) (fun c12 => ?_)
      · have hF := hp_ifp (c12) hF
        refine lv_bipush (v := 87) X.1 X.2.1 dX6_write_133 (by decide) ?_
        refine lv_iload X.1 X.2.1 dX6_write_135 (lv_at hl 4 rfl) ?_
        refine lv_iadd X.1 X.2.1 dX6_write_137 ?_
        exact wX6_write_138 X hk32 Y (lv_sub hl [0, 1, 2, 3] rfl) hF
      · have hF := hp_ifn (c12) hF
        refine lv_bipush (v := 48) X.1 X.2.1 dX6_write_125 (by decide) ?_
        refine lv_iload X.1 X.2.1 dX6_write_127 (lv_at hl 4 rfl) ?_
        refine lv_iadd X.1 X.2.1 dX6_write_129 ?_
        refine lv_goto (tgt := 138) X.1 X.2.1 dX6_write_130 (by decide) ?_
        exact wX6_write_138 X hk32 Y (lv_sub hl [0, 1, 2, 3] rfl) hF
    · have hF := hp_ifn (c1) hF
      refine lv_iload X.1 X.2.1 dX6_write_59 (lv_at hl 4 rfl) ?_
      refine lv_sipush (v := 10000) X.1 X.2.1 dX6_write_61 (by decide) ?_
      refine lv_imul X.1 X.2.1 dX6_write_64 ?_
      refine lv_aload_n X.1 X.2.1 dX6_write_65 rfl (lv_at hl 0 rfl) ?_
      obtain ⟨v13, e14, hF⟩ := hp_b hF
      refine hp_getr X Y (C := RX6) (T := TX6) (N := 14) (ci := 6) (k := 5) rfl inX6_write_X6 (by decide) lkX6_write_f22 e14 dX6_write_66 ?_
      refine lv_iload X.1 X.2.1 dX6_write_69 (lv_at hl 5 rfl) ?_
      obtain ⟨v15, e16, hF⟩ := hp_b hF
      refine hp_iald X Y e16 dX6_write_71 ?_
      refine lv_iadd X.1 X.2.1 dX6_write_72 ?_
      obtain ⟨v17, e18, hF⟩ := hp_b hF
      refine hp_ti (Option.some.inj e18) ?_
      refine lv_istore (lv' := [(6, .int v17), (0, .ref x0), (1, .int x1), (2, .int x2), (3, .int x3), (4, .int x4), (5, .int x5)]) X.1 X.2.1 dX6_write_73 hl (by decide) rfl (fun ls hl => ?_)
      refine lv_aload_n X.1 X.2.1 dX6_write_75 rfl (lv_at hl 1 rfl) ?_
      obtain ⟨v19, e20, hF⟩ := hp_b hF
      refine hp_getr X Y (C := RX6) (T := TX6) (N := 14) (ci := 6) (k := 5) rfl inX6_write_X6 (by decide) lkX6_write_f22 e20 dX6_write_76 ?_
      refine lv_iload X.1 X.2.1 dX6_write_79 (lv_at hl 6 rfl) ?_
      refine lv_iload X.1 X.2.1 dX6_write_81 (lv_at hl 0 rfl) ?_
      refine lv_iload_n X.1 X.2.1 dX6_write_83 rfl (lv_at hl 3 rfl) ?_
      obtain ⟨e21, hF⟩ := hp_ift hF
      refine lv_idiv X.1 X.2.1 dX6_write_84 e21 ?_
      obtain ⟨h22, e23, hF⟩ := hp_b hF
      refine hp_iast X Y e23 dX6_write_85 (fun H locs Y => ?_)
      refine lv_iload X.1 X.2.1 dX6_write_86 (lv_at hl 0 rfl) ?_
      refine lv_iload_n X.1 X.2.1 dX6_write_88 rfl (lv_at hl 3 rfl) ?_
      obtain ⟨e24, hF⟩ := hp_ift hF
      refine lv_irem X.1 X.2.1 dX6_write_89 e24 ?_
      obtain ⟨v25, e26, hF⟩ := hp_b hF
      refine hp_ti (Option.some.inj e26) ?_
      refine lv_istore (lv' := [(4, .int v25), (6, .int v17), (0, .ref x0), (1, .int x1), (2, .int x2), (3, .int x3), (5, .int x5)]) X.1 X.2.1 dX6_write_90 hl (by decide) rfl (fun ls hl => ?_)
      obtain ⟨v27, e28, hF⟩ := hp_b hF
      refine lv_iinc (v := v27) (lv' := [(5, .int v27), (4, .int v25), (6, .int v17), (0, .ref x0), (1, .int x1), (2, .int x2), (3, .int x3)]) X.1 X.2.1 dX6_write_92 hl (k := 6) rfl (Option.some.inj e28) (by decide) rfl (fun ls hl => ?_)
      refine lv_goto (tgt := 54) X.1 X.2.1 dX6_write_95 (by decide) ?_
      exact ih Y (lv_sub hl [3, 4, 5, 6, 1, 0] rfl) hF
set_option maxRecDepth 100000 in
set_option maxHeartbeats 4000000 in
theorem wX6_write_43 {p : Program} {l : Launch} {e : Env} {s : State} {m : MethodId} {args : Array Value} {below : List Frame} {meth : Method} {c : Code} {G : hp_G} {h0 h' : hp_H} {r : Int32} (X : hp_X p s m args meth c cX6_write 7 RX6 wsX6_write (some .int) G) {k32 : Int32 → hp_H → Option (Int32 × hp_H)} {x0 : Nat} {x1 : Int32} {x2 : Int32} {x3 : Int32}  (hk32 : ∀ (y3 : Int32) (h : hp_H) (H : Heap) (locs : List Loc) (ls : Array Slot), hp_Y G h h0 s H locs → lv_has ls 7 [(0, .ref x0), (1, .int x1), (2, .int x2), (3, .int y3)] → k32 y3 h = some (r, h') → W p l e rmX6_write s m args below meth c H locs 0 0 (MQ below (va_Qi (fun r' u => r' = r ∧ u = h') (hp_B G h0) (hp_A h0)) args s 0 0 (hp_A h0)) (F0 m 32 ls [])) {h : hp_H} {H : Heap} {locs : List Loc} {ls : Array Slot} (Y : hp_Y G h h0 s H locs) (hl : lv_has ls 7 [(0, .ref x0), (1, .int x1), (2, .int x2), (3, .int x3)]) (hF : bX6_write_43 k32 x0 x1 x2 x3 h = some (r, h')) : W p l e rmX6_write s m args below meth c H locs 0 0 (MQ below (va_Qi (fun r' u => r' = r ∧ u = h') (hp_B G h0) (hp_A h0)) args s 0 0 (hp_A h0)) (F0 m 43 ls []) := by
  unfold bX6_write_43 at hF
  refine lv_iconst (v := 0) X.1 X.2.1 dX6_write_43 (by decide) ?_
  refine lv_istore (lv' := [(4, .int (0 : Int32)), (0, .ref x0), (1, .int x1), (2, .int x2), (3, .int x3)]) X.1 X.2.1 dX6_write_44 hl (by decide) rfl (fun ls hl => ?_)
  refine lv_aload_n X.1 X.2.1 dX6_write_46 rfl (lv_at hl 1 rfl) ?_
  obtain ⟨v1, e2, hF⟩ := hp_b hF
  refine hp_geti X Y (C := RX6) (T := TX6) (N := 14) (ci := 6) (k := 8) rfl inX6_write_X6 (by decide) lkX6_write_f34 e2 dX6_write_47 ?_
  refine lv_iconst (v := 1) X.1 X.2.1 dX6_write_50 (by decide) ?_
  refine lv_isub X.1 X.2.1 dX6_write_51 ?_
  obtain ⟨v3, e4, hF⟩ := hp_b hF
  refine hp_ti (Option.some.inj e4) ?_
  refine lv_istore (lv' := [(5, .int v3), (4, .int (0 : Int32)), (0, .ref x0), (1, .int x1), (2, .int x2), (3, .int x3)]) X.1 X.2.1 dX6_write_52 hl (by decide) rfl (fun ls hl => ?_)
  exact wX6_write_54 X hk32 hp_n Y (lv_sub hl [2, 3, 4, 5, 1, 0] rfl) hF
set_option maxRecDepth 100000 in
set_option maxHeartbeats 4000000 in
theorem wX6_write_32 {p : Program} {l : Launch} {e : Env} {s : State} {m : MethodId} {args : Array Value} {below : List Frame} {meth : Method} {c : Code} {G : hp_G} {h0 h' : hp_H} {r : Int32} (X : hp_X p s m args meth c cX6_write 7 RX6 wsX6_write (some .int) G)  {x0 : Nat} {x1 : Int32} {x2 : Int32}   : ∀ (n : Nat) {x3 : Int32} {h : hp_H} {H : Heap} {locs : List Loc} {ls : Array Slot} (Y : hp_Y G h h0 s H locs) (hl : lv_has ls 7 [(0, .ref x0), (1, .int x1), (2, .int x2), (3, .int x3)]) (hF : bX6_write_32 x0 x1 x2 n x3 h = some (r, h')), W p l e rmX6_write s m args below meth c H locs 0 0 (MQ below (va_Qi (fun r' u => r' = r ∧ u = h') (hp_B G h0) (hp_A h0)) args s 0 0 (hp_A h0)) (F0 m 32 ls []) := by
  intro n
  induction n with
  | zero =>
    intro x3 h H locs ls Y hl hF
    exact absurd (show none = some _ from hF) (by simp)
  | succ n ih =>
    intro x3 h H locs ls Y hl hF
    rw [bX6_write_32] at hF
    refine lv_aload_n X.1 X.2.1 dX6_write_32 rfl (lv_at hl 0 rfl) ?_
    obtain ⟨v1, e2, hF⟩ := hp_b hF
    refine hp_geti X Y (C := RX6) (T := TX6) (N := 14) (ci := 6) (k := 8) rfl inX6_write_X6 (by decide) lkX6_write_f34 e2 dX6_write_33 ?_
    refine lv_if_gt (tgt := 43) X.1 X.2.1 dX6_write_36 (by decide) (fun c3 => ?_) (fun c3 => ?_)
    · have hF := hp_ifp (c3) hF
      exact wX6_write_43 X (fun _ _ _ _ _ Y hl hF => ih Y hl hF) Y (lv_sub hl [0, 1, 2, 3] rfl) hF
    · have hF := hp_ifn (c3) hF
      refine lv_iload_n X.1 X.2.1 dX6_write_39 rfl (lv_at hl 3 rfl) ?_
      refine lv_if_ne (tgt := 145) X.1 X.2.1 dX6_write_40 (by decide) (fun c4 => ?_) (fun c4 => ?_)
      · have hF := hp_ifn (c4) hF
        refine lv_aload_n X.1 X.2.1 dX6_write_145 rfl (lv_at hl 0 rfl) ?_
        obtain ⟨v5, e6, hF⟩ := hp_b hF
        refine hp_getr X Y (C := RX6) (T := TX6) (N := 14) (ci := 6) (k := 2) rfl inX6_write_X6 (by decide) lkX6_write_f16 e6 dX6_write_146 ?_
        refine lv_iload_n X.1 X.2.1 dX6_write_149 rfl (lv_at hl 1 rfl) ?_
        obtain ⟨v7, e8, hF⟩ := hp_b hF
        refine hp_iald X Y e8 dX6_write_150 ?_
        refine lv_if_ge (tgt := 165) X.1 X.2.1 dX6_write_151 (by decide) (fun c9 => ?_) (fun c9 => ?_)
        · have hF := hp_ifp (c9) hF
          exact wX6_write_165 X  Y (lv_sub hl [0, 3] rfl) hF
        · have hF := hp_ifn (c9) hF
          refine lv_aload_n X.1 X.2.1 dX6_write_154 rfl (lv_at hl 0 rfl) ?_
          obtain ⟨v10, e11, hF⟩ := hp_b hF
          refine hp_getr X Y (C := RX6) (T := TX6) (N := 14) (ci := 6) (k := 12) rfl inX6_write_X6 (by decide) lkX6_write_f31 e11 dX6_write_155 ?_
          refine lv_iload_n X.1 X.2.1 dX6_write_158 rfl (lv_at hl 3 rfl) ?_
          refine lv_bipush (v := 45) X.1 X.2.1 dX6_write_159 (by decide) ?_
          obtain ⟨h12, e13, hF⟩ := hp_b hF
          refine hp_iast X Y e13 dX6_write_161 (fun H locs Y => ?_)
          obtain ⟨v14, e15, hF⟩ := hp_b hF
          refine lv_iinc (v := v14) (lv' := [(3, .int v14), (0, .ref x0), (1, .int x1), (2, .int x2)]) X.1 X.2.1 dX6_write_162 hl (k := 3) rfl (Option.some.inj e15) (by decide) rfl (fun ls hl => ?_)
          exact wX6_write_165 X  Y (lv_sub hl [1, 0] rfl) hF
      · have hF := hp_ifp (c4) hF
        exact wX6_write_43 X (fun _ _ _ _ _ Y hl hF => ih Y hl hF) Y (lv_sub hl [0, 1, 2, 3] rfl) hF
theorem oX6_write {x0 : Nat} {x1 : Int32} {x2 : Int32} {h h' : hp_H} {r : Int32} (hF : fX6_write x0 x1 x2 h = some (r, h')) : hp_o h x0 6 = true := by
  unfold fX6_write at hF
  exact (hp_ift hF).1
set_option maxRecDepth 100000 in
set_option maxHeartbeats 4000000 in
theorem mX6_write (l : Launch) (G : hp_G) {x0 : Nat} {x1 : Int32} {x2 : Int32} {h h' : hp_H} {r : Int32} (hF : fX6_write x0 x1 x2 h = some (r, h')) : Met l yX6_write wsX6_write rmX6_write (va_Pc [.ref x0, .int x1, .int x2] (hp_S G h)) (va_Qi (fun r' u => r' = r ∧ u = h') (hp_B G h) (hp_A h)) 0 0 (hp_A h) := by
  refine hp_met (cc := cX6_write) (nL := 7) (ret := (some .int)) (by decide) rfl ?_
  intro p e s m below meth c X Y
  have hl := lv_entry ([.ref x0, .int x1, .int x2]) (n := 7) (Nat.le_of_ble_eq_true rfl)
  rw [lg_entry_eq]
  generalize (lg_sl ([.ref x0, .int x1, .int x2]) ++ List.replicate (7 - (lg_sl ([.ref x0, .int x1, .int x2])).length) Slot.unset).toArray = ls at hl ⊢
  have hl : lv_has ls 7 [(0, .ref x0), (1, .int x1), (2, .int x2)] := hl
  unfold fX6_write at hF
  obtain ⟨ho, hF⟩ := hp_ift hF
  refine lv_aload_n X.1 X.2.1 dX6_write_0 rfl (lv_at hl 0 rfl) ?_
  refine lv_iconst (v := 0) X.1 X.2.1 dX6_write_1 (by decide) ?_
  obtain ⟨h1, e2, hF⟩ := hp_b hF
  refine hp_put X Y (C := RX6) (T := TX6) (N := 14) (ci := 6) (k := 11) (ty0 := tyX6) rfl inX6_write_X6 tyX6_ok nmX6 (by decide) lkX6_write_f45 rfl rfl rfl e2 dX6_write_2 (fun H locs Y => ?_)
  refine lv_iload_n X.1 X.2.1 dX6_write_5 rfl (lv_at hl 1 rfl) ?_
  obtain ⟨v4, e3, hF⟩ := hp_b hF
  refine hp_ci Y (hp_runS X Y (As := [.int x1]) (n := 1) (mX6_isRegister l G e3) gX6_write_X6_isRegister rfl rfl rfl ndX6_isRegister ⟨Nat.le_of_ble_eq_true rfl, Nat.le_of_ble_eq_true rfl⟩ rfl hl.1 rfl (Nat.le_of_ble_eq_true rfl) dX6_write_6 ⟨Nat.zero_le _, Nat.zero_le _⟩) (fun H locs Y => ?_)
  refine lv_if_eq (tgt := 23) X.1 X.2.1 dX6_write_9 (by decide) (fun c5 => ?_) (fun c5 => ?_)
  · have hF := hp_ifp (c5) hF
    refine lv_iconst (v := -1) X.1 X.2.1 dX6_write_23 (by decide) ?_
    cases hF
    exact hp_ri X Y rfl rfl dX6_write_24
  · have hF := hp_ifn (c5) hF
    refine lv_iload_n X.1 X.2.1 dX6_write_12 rfl (lv_at hl 2 rfl) ?_
    refine lv_iconst (v := 2) X.1 X.2.1 dX6_write_13 (by decide) ?_
    refine lv_icmp_lt (tgt := 23) X.1 X.2.1 dX6_write_14 (by decide) (fun c6 => ?_) (fun c6 => ?_)
    · have hF := hp_ifp (c6) hF
      refine lv_iconst (v := -1) X.1 X.2.1 dX6_write_23 (by decide) ?_
      cases hF
      exact hp_ri X Y rfl rfl dX6_write_24
    · have hF := hp_ifn (c6) hF
      refine lv_iload_n X.1 X.2.1 dX6_write_17 rfl (lv_at hl 2 rfl) ?_
      refine lv_bipush (v := 16) X.1 X.2.1 dX6_write_18 (by decide) ?_
      refine lv_icmp_le (tgt := 25) X.1 X.2.1 dX6_write_20 (by decide) (fun c7 => ?_) (fun c7 => ?_)
      · have hF := hp_ifp (c7) hF
        refine lv_aload_n X.1 X.2.1 dX6_write_25 rfl (lv_at hl 0 rfl) ?_
        refine lv_iload_n X.1 X.2.1 dX6_write_26 rfl (lv_at hl 1 rfl) ?_
        obtain ⟨h9, e8, hF⟩ := hp_b hF
        refine hp_cv Y (hp_runV X Y (ci := 6) (As := [.int x1]) (n := 1) (T := TX6) (N := 14) (mX6_toX l G e8) rfl (oX6_toX e8) gX6_write_X6_toX rfl rfl rfl ndX6_toX ⟨Nat.le_of_ble_eq_true rfl, Nat.le_of_ble_eq_true rfl⟩ rfl hl.1 rfl (Nat.le_of_ble_eq_true rfl) dX6_write_27 ⟨Nat.zero_le _, Nat.zero_le _⟩) (fun H locs Y => ?_)
        refine lv_iconst (v := 0) X.1 X.2.1 dX6_write_30 (by decide) ?_
        refine lv_istore_n (lv' := [(3, .int (0 : Int32)), (0, .ref x0), (1, .int x1), (2, .int x2)]) X.1 X.2.1 dX6_write_31 rfl hl (by decide) rfl (fun ls hl => ?_)
        exact wX6_write_32 X  hp_n Y (lv_sub hl [1, 2, 3, 0] rfl) hF
      · have hF := hp_ifn (c7) hF
        refine lv_iconst (v := -1) X.1 X.2.1 dX6_write_23 (by decide) ?_
        cases hF
        exact hp_ri X Y rfl rfl dX6_write_24

/-! WholeNumbersModel.type -/
def rmX6_type : Room := { frames := 0, cells := 0, slots := 0, locals := 0 }
def fX6_type (x0 : Nat) (x1 : Int32) (h : hp_H) : Option (Int32 × hp_H) :=
  if hp_o h x0 6 = true then
  (hp_pv h x0 6 11 (.int (0 : Int32))).bind fun h1 =>
  if x1 < 0 then (
    some ((-1 : Int32), h1))
  else (
    if (127 : Int32) < x1 then (
      some ((-1 : Int32), h1))
    else (
      (hp_gi h1 x0 6 13).bind fun v5 =>
      if v5 < (1300 : Int32) then (
        (hp_gr h1 x0 6 12).bind fun v8 =>
        (hp_gi h1 x0 6 13).bind fun v10 =>
        (hp_si h1 0 v8 v10 x1).bind fun h12 =>
        (hp_gi h12 x0 6 13).bind fun v14 =>
        (hp_pv h12 x0 6 13 (.int (v14 + (1 : Int32)))).bind fun h16 =>
        (hp_gi h16 x0 6 13).bind fun v18 =>
        some (v18, h16))
      else (
        some ((-1 : Int32), h1))))
  else none
theorem inX6_type_X6 : ∀ w ∈ wsX60, w ∈ wsX6_type := by decide +kernel
theorem lkX6_type_f45 : Cond.fieldLink RX6 45 (TX6 11).1 (TX6 11).2.1 (TX6 11).2.2.1 ∈ wsX6_type := by decide +kernel
theorem lkX6_type_f123 : Cond.fieldLink RX6 123 (TX6 13).1 (TX6 13).2.1 (TX6 13).2.2.1 ∈ wsX6_type := by decide +kernel
theorem lkX6_type_f31 : Cond.fieldLink RX6 31 (TX6 12).1 (TX6 12).2.1 (TX6 12).2.2.1 ∈ wsX6_type := by decide +kernel
theorem ndX6_type : yX6_type.cls ≠ "java/lang/invoke/MethodHandle" ∧ yX6_type.cls ≠ "java/lang/invoke/VarHandle" ∧ (parseMethodDescriptor yX6_type.desc).map (fun d => d.parameters.length) = some 1 := by decide +kernel
theorem oX6_type {x0 : Nat} {x1 : Int32} {h h' : hp_H} {r : Int32} (hF : fX6_type x0 x1 h = some (r, h')) : hp_o h x0 6 = true := by
  unfold fX6_type at hF
  exact (hp_ift hF).1
set_option maxRecDepth 100000 in
set_option maxHeartbeats 4000000 in
theorem mX6_type (l : Launch) (G : hp_G) {x0 : Nat} {x1 : Int32} {h h' : hp_H} {r : Int32} (hF : fX6_type x0 x1 h = some (r, h')) : Met l yX6_type wsX6_type rmX6_type (va_Pc [.ref x0, .int x1] (hp_S G h)) (va_Qi (fun r' u => r' = r ∧ u = h') (hp_B G h) (hp_A h)) 0 0 (hp_A h) := by
  refine hp_met (cc := cX6_type) (nL := 2) (ret := (some .int)) (by decide) rfl ?_
  intro p e s m below meth c X Y
  have hl := lv_entry ([.ref x0, .int x1]) (n := 2) (Nat.le_of_ble_eq_true rfl)
  rw [lg_entry_eq]
  generalize (lg_sl ([.ref x0, .int x1]) ++ List.replicate (2 - (lg_sl ([.ref x0, .int x1])).length) Slot.unset).toArray = ls at hl ⊢
  have hl : lv_has ls 2 [(0, .ref x0), (1, .int x1)] := hl
  unfold fX6_type at hF
  obtain ⟨ho, hF⟩ := hp_ift hF
  refine lv_aload_n X.1 X.2.1 dX6_type_0 rfl (lv_at hl 0 rfl) ?_
  refine lv_iconst (v := 0) X.1 X.2.1 dX6_type_1 (by decide) ?_
  obtain ⟨h1, e2, hF⟩ := hp_b hF
  refine hp_put X Y (C := RX6) (T := TX6) (N := 14) (ci := 6) (k := 11) (ty0 := tyX6) rfl inX6_type_X6 tyX6_ok nmX6 (by decide) lkX6_type_f45 rfl rfl rfl e2 dX6_type_2 (fun H locs Y => ?_)
  refine lv_iload_n X.1 X.2.1 dX6_type_5 rfl (lv_at hl 1 rfl) ?_
  refine lv_if_lt (tgt := 25) X.1 X.2.1 dX6_type_6 (by decide) (fun c3 => ?_) (fun c3 => ?_)
  · have hF := hp_ifp (c3) hF
    refine lv_iconst (v := -1) X.1 X.2.1 dX6_type_25 (by decide) ?_
    cases hF
    exact hp_ri X Y rfl rfl dX6_type_26
  · have hF := hp_ifn (c3) hF
    refine lv_iload_n X.1 X.2.1 dX6_type_9 rfl (lv_at hl 1 rfl) ?_
    refine lv_bipush (v := 127) X.1 X.2.1 dX6_type_10 (by decide) ?_
    refine lv_icmp_gt (tgt := 25) X.1 X.2.1 dX6_type_12 (by decide) (fun c4 => ?_) (fun c4 => ?_)
    · have hF := hp_ifp (c4) hF
      refine lv_iconst (v := -1) X.1 X.2.1 dX6_type_25 (by decide) ?_
      cases hF
      exact hp_ri X Y rfl rfl dX6_type_26
    · have hF := hp_ifn (c4) hF
      refine lv_aload_n X.1 X.2.1 dX6_type_15 rfl (lv_at hl 0 rfl) ?_
      obtain ⟨v5, e6, hF⟩ := hp_b hF
      refine hp_geti X Y (C := RX6) (T := TX6) (N := 14) (ci := 6) (k := 13) rfl inX6_type_X6 (by decide) lkX6_type_f123 e6 dX6_type_16 ?_
      refine lv_sipush (v := 1300) X.1 X.2.1 dX6_type_19 (by decide) ?_
      refine lv_icmp_lt (tgt := 27) X.1 X.2.1 dX6_type_22 (by decide) (fun c7 => ?_) (fun c7 => ?_)
      · have hF := hp_ifp (c7) hF
        refine lv_aload_n X.1 X.2.1 dX6_type_27 rfl (lv_at hl 0 rfl) ?_
        obtain ⟨v8, e9, hF⟩ := hp_b hF
        refine hp_getr X Y (C := RX6) (T := TX6) (N := 14) (ci := 6) (k := 12) rfl inX6_type_X6 (by decide) lkX6_type_f31 e9 dX6_type_28 ?_
        refine lv_aload_n X.1 X.2.1 dX6_type_31 rfl (lv_at hl 0 rfl) ?_
        obtain ⟨v10, e11, hF⟩ := hp_b hF
        refine hp_geti X Y (C := RX6) (T := TX6) (N := 14) (ci := 6) (k := 13) rfl inX6_type_X6 (by decide) lkX6_type_f123 e11 dX6_type_32 ?_
        refine lv_iload_n X.1 X.2.1 dX6_type_35 rfl (lv_at hl 1 rfl) ?_
        obtain ⟨h12, e13, hF⟩ := hp_b hF
        refine hp_iast X Y e13 dX6_type_36 (fun H locs Y => ?_)
        refine lv_aload_n X.1 X.2.1 dX6_type_37 rfl (lv_at hl 0 rfl) ?_
        refine lv_dup X.1 X.2.1 dX6_type_38 rfl ?_
        obtain ⟨v14, e15, hF⟩ := hp_b hF
        refine hp_geti X Y (C := RX6) (T := TX6) (N := 14) (ci := 6) (k := 13) rfl inX6_type_X6 (by decide) lkX6_type_f123 e15 dX6_type_39 ?_
        refine lv_iconst (v := 1) X.1 X.2.1 dX6_type_42 (by decide) ?_
        refine lv_iadd X.1 X.2.1 dX6_type_43 ?_
        obtain ⟨h16, e17, hF⟩ := hp_b hF
        refine hp_put X Y (C := RX6) (T := TX6) (N := 14) (ci := 6) (k := 13) (ty0 := tyX6) rfl inX6_type_X6 tyX6_ok nmX6 (by decide) lkX6_type_f123 rfl rfl rfl e17 dX6_type_44 (fun H locs Y => ?_)
        refine lv_aload_n X.1 X.2.1 dX6_type_47 rfl (lv_at hl 0 rfl) ?_
        obtain ⟨v18, e19, hF⟩ := hp_b hF
        refine hp_geti X Y (C := RX6) (T := TX6) (N := 14) (ci := 6) (k := 13) rfl inX6_type_X6 (by decide) lkX6_type_f123 e19 dX6_type_48 ?_
        cases hF
        exact hp_ri X Y rfl rfl dX6_type_51
      · have hF := hp_ifn (c7) hF
        refine lv_iconst (v := -1) X.1 X.2.1 dX6_type_25 (by decide) ?_
        cases hF
        exact hp_ri X Y rfl rfl dX6_type_26

/-! WholeNumbersModel.clear -/
def rmX6_clear : Room := { frames := 0, cells := 0, slots := 0, locals := 0 }
def fX6_clear (x0 : Nat) (h : hp_H) : Option hp_H :=
  if hp_o h x0 6 = true then
  (hp_pv h x0 6 11 (.int (0 : Int32))).bind fun h1 =>
  (hp_pv h1 x0 6 13 (.int (0 : Int32))).bind fun h3 =>
  some h3
  else none
theorem inX6_clear_X6 : ∀ w ∈ wsX60, w ∈ wsX6_clear := by decide +kernel
theorem lkX6_clear_f45 : Cond.fieldLink RX6 45 (TX6 11).1 (TX6 11).2.1 (TX6 11).2.2.1 ∈ wsX6_clear := by decide +kernel
theorem lkX6_clear_f123 : Cond.fieldLink RX6 123 (TX6 13).1 (TX6 13).2.1 (TX6 13).2.2.1 ∈ wsX6_clear := by decide +kernel
theorem ndX6_clear : yX6_clear.cls ≠ "java/lang/invoke/MethodHandle" ∧ yX6_clear.cls ≠ "java/lang/invoke/VarHandle" ∧ (parseMethodDescriptor yX6_clear.desc).map (fun d => d.parameters.length) = some 0 := by decide +kernel
theorem oX6_clear {x0 : Nat} {h h' : hp_H}  (hF : fX6_clear x0 h = some h') : hp_o h x0 6 = true := by
  unfold fX6_clear at hF
  exact (hp_ift hF).1
set_option maxRecDepth 100000 in
set_option maxHeartbeats 4000000 in
theorem mX6_clear (l : Launch) (G : hp_G) {x0 : Nat} {h h' : hp_H}  (hF : fX6_clear x0 h = some h') : Met l yX6_clear wsX6_clear rmX6_clear (va_Pc [.ref x0] (hp_S G h)) (va_Qv (fun u => u = h') (hp_B G h) (hp_A h)) 0 0 (hp_A h) := by
  refine hp_met (cc := cX6_clear) (nL := 1) (ret := none) (by decide) rfl ?_
  intro p e s m below meth c X Y
  have hl := lv_entry ([.ref x0]) (n := 1) (Nat.le_of_ble_eq_true rfl)
  rw [lg_entry_eq]
  generalize (lg_sl ([.ref x0]) ++ List.replicate (1 - (lg_sl ([.ref x0])).length) Slot.unset).toArray = ls at hl ⊢
  have hl : lv_has ls 1 [(0, .ref x0)] := hl
  unfold fX6_clear at hF
  obtain ⟨ho, hF⟩ := hp_ift hF
  refine lv_aload_n X.1 X.2.1 dX6_clear_0 rfl (lv_at hl 0 rfl) ?_
  refine lv_iconst (v := 0) X.1 X.2.1 dX6_clear_1 (by decide) ?_
  obtain ⟨h1, e2, hF⟩ := hp_b hF
  refine hp_put X Y (C := RX6) (T := TX6) (N := 14) (ci := 6) (k := 11) (ty0 := tyX6) rfl inX6_clear_X6 tyX6_ok nmX6 (by decide) lkX6_clear_f45 rfl rfl rfl e2 dX6_clear_2 (fun H locs Y => ?_)
  refine lv_aload_n X.1 X.2.1 dX6_clear_5 rfl (lv_at hl 0 rfl) ?_
  refine lv_iconst (v := 0) X.1 X.2.1 dX6_clear_6 (by decide) ?_
  obtain ⟨h3, e4, hF⟩ := hp_b hF
  refine hp_put X Y (C := RX6) (T := TX6) (N := 14) (ci := 6) (k := 13) (ty0 := tyX6) rfl inX6_clear_X6 tyX6_ok nmX6 (by decide) lkX6_clear_f123 rfl rfl rfl e4 dX6_clear_7 (fun H locs Y => ?_)
  cases hF
  exact hp_rv X Y rfl dX6_clear_10

/-! WholeNumbersModel.character -/
def rmX6_character : Room := { frames := 0, cells := 0, slots := 0, locals := 0 }
def fX6_character (x0 : Nat) (x1 : Int32) (h : hp_H) : Option (Int32 × hp_H) :=
  if hp_o h x0 6 = true then
  (hp_pv h x0 6 11 (.int (0 : Int32))).bind fun h1 =>
  if x1 < 0 then (
    some ((-1 : Int32), h1))
  else (
    (hp_gi h1 x0 6 13).bind fun v4 =>
    if x1 < v4 then (
      (hp_gr h1 x0 6 12).bind fun v7 =>
      (hp_ai h1 0 v7 x1).bind fun v9 =>
      some (v9, h1))
    else (
      some ((-1 : Int32), h1)))
  else none
theorem inX6_character_X6 : ∀ w ∈ wsX60, w ∈ wsX6_character := by decide +kernel
theorem lkX6_character_f45 : Cond.fieldLink RX6 45 (TX6 11).1 (TX6 11).2.1 (TX6 11).2.2.1 ∈ wsX6_character := by decide +kernel
theorem lkX6_character_f123 : Cond.fieldLink RX6 123 (TX6 13).1 (TX6 13).2.1 (TX6 13).2.2.1 ∈ wsX6_character := by decide +kernel
theorem lkX6_character_f31 : Cond.fieldLink RX6 31 (TX6 12).1 (TX6 12).2.1 (TX6 12).2.2.1 ∈ wsX6_character := by decide +kernel
theorem ndX6_character : yX6_character.cls ≠ "java/lang/invoke/MethodHandle" ∧ yX6_character.cls ≠ "java/lang/invoke/VarHandle" ∧ (parseMethodDescriptor yX6_character.desc).map (fun d => d.parameters.length) = some 1 := by decide +kernel
theorem oX6_character {x0 : Nat} {x1 : Int32} {h h' : hp_H} {r : Int32} (hF : fX6_character x0 x1 h = some (r, h')) : hp_o h x0 6 = true := by
  unfold fX6_character at hF
  exact (hp_ift hF).1
set_option maxRecDepth 100000 in
set_option maxHeartbeats 4000000 in
theorem mX6_character (l : Launch) (G : hp_G) {x0 : Nat} {x1 : Int32} {h h' : hp_H} {r : Int32} (hF : fX6_character x0 x1 h = some (r, h')) : Met l yX6_character wsX6_character rmX6_character (va_Pc [.ref x0, .int x1] (hp_S G h)) (va_Qi (fun r' u => r' = r ∧ u = h') (hp_B G h) (hp_A h)) 0 0 (hp_A h) := by
  refine hp_met (cc := cX6_character) (nL := 2) (ret := (some .int)) (by decide) rfl ?_
  intro p e s m below meth c X Y
  have hl := lv_entry ([.ref x0, .int x1]) (n := 2) (Nat.le_of_ble_eq_true rfl)
  rw [lg_entry_eq]
  generalize (lg_sl ([.ref x0, .int x1]) ++ List.replicate (2 - (lg_sl ([.ref x0, .int x1])).length) Slot.unset).toArray = ls at hl ⊢
  have hl : lv_has ls 2 [(0, .ref x0), (1, .int x1)] := hl
  unfold fX6_character at hF
  obtain ⟨ho, hF⟩ := hp_ift hF
  refine lv_aload_n X.1 X.2.1 dX6_character_0 rfl (lv_at hl 0 rfl) ?_
  refine lv_iconst (v := 0) X.1 X.2.1 dX6_character_1 (by decide) ?_
  obtain ⟨h1, e2, hF⟩ := hp_b hF
  refine hp_put X Y (C := RX6) (T := TX6) (N := 14) (ci := 6) (k := 11) (ty0 := tyX6) rfl inX6_character_X6 tyX6_ok nmX6 (by decide) lkX6_character_f45 rfl rfl rfl e2 dX6_character_2 (fun H locs Y => ?_)
  refine lv_iload_n X.1 X.2.1 dX6_character_5 rfl (lv_at hl 1 rfl) ?_
  refine lv_if_lt (tgt := 17) X.1 X.2.1 dX6_character_6 (by decide) (fun c3 => ?_) (fun c3 => ?_)
  · have hF := hp_ifp (c3) hF
    refine lv_iconst (v := -1) X.1 X.2.1 dX6_character_17 (by decide) ?_
    refine lv_goto (tgt := 27) X.1 X.2.1 dX6_character_18 (by decide) ?_
    cases hF
    exact hp_ri X Y rfl rfl dX6_character_27
  · have hF := hp_ifn (c3) hF
    refine lv_iload_n X.1 X.2.1 dX6_character_9 rfl (lv_at hl 1 rfl) ?_
    refine lv_aload_n X.1 X.2.1 dX6_character_10 rfl (lv_at hl 0 rfl) ?_
    obtain ⟨v4, e5, hF⟩ := hp_b hF
    refine hp_geti X Y (C := RX6) (T := TX6) (N := 14) (ci := 6) (k := 13) rfl inX6_character_X6 (by decide) lkX6_character_f123 e5 dX6_character_11 ?_
    refine lv_icmp_lt (tgt := 21) X.1 X.2.1 dX6_character_14 (by decide) (fun c6 => ?_) (fun c6 => ?_)
    · have hF := hp_ifp (c6) hF
      refine lv_aload_n X.1 X.2.1 dX6_character_21 rfl (lv_at hl 0 rfl) ?_
      obtain ⟨v7, e8, hF⟩ := hp_b hF
      refine hp_getr X Y (C := RX6) (T := TX6) (N := 14) (ci := 6) (k := 12) rfl inX6_character_X6 (by decide) lkX6_character_f31 e8 dX6_character_22 ?_
      refine lv_iload_n X.1 X.2.1 dX6_character_25 rfl (lv_at hl 1 rfl) ?_
      obtain ⟨v9, e10, hF⟩ := hp_b hF
      refine hp_iald X Y e10 dX6_character_26 ?_
      cases hF
      exact hp_ri X Y rfl rfl dX6_character_27
    · have hF := hp_ifn (c6) hF
      refine lv_iconst (v := -1) X.1 X.2.1 dX6_character_17 (by decide) ?_
      refine lv_goto (tgt := 27) X.1 X.2.1 dX6_character_18 (by decide) ?_
      cases hF
      exact hp_ri X Y rfl rfl dX6_character_27

/-! WholeNumbersModel.digit -/
def rmX6_digit : Room := { frames := 0, cells := 0, slots := 0, locals := 0 }
def bX6_digit_59  (x1 : Int32) (t0 : Int32) : Option Int32 :=
  if x1 ≤ t0 then (
    some (-1 : Int32))
  else (
    some t0)
def bX6_digit_57  (x1 : Int32)  : Option Int32 :=
  bX6_digit_59 x1 (16 : Int32)
def bX6_digit_38  (x0 : Int32) (x1 : Int32)  : Option Int32 :=
  if x0 < (65 : Int32) then (
    bX6_digit_57 x1)
  else (
    if (70 : Int32) < x0 then (
      bX6_digit_57 x1)
    else (
      bX6_digit_59 x1 (x0 - (55 : Int32))))
def bX6_digit_19  (x0 : Int32) (x1 : Int32)  : Option Int32 :=
  if x0 < (97 : Int32) then (
    bX6_digit_38 x0 x1)
  else (
    if (102 : Int32) < x0 then (
      bX6_digit_38 x0 x1)
    else (
      bX6_digit_59 x1 (x0 - (87 : Int32))))
def fX6_digit (x0 : Int32) (x1 : Int32) : Option Int32 :=
  if x0 < (48 : Int32) then (
    bX6_digit_19 x0 x1)
  else (
    if (57 : Int32) < x0 then (
      bX6_digit_19 x0 x1)
    else (
      bX6_digit_59 x1 (x0 - (48 : Int32))))
theorem ndX6_digit : yX6_digit.cls ≠ "java/lang/invoke/MethodHandle" ∧ yX6_digit.cls ≠ "java/lang/invoke/VarHandle" ∧ (parseMethodDescriptor yX6_digit.desc).map (fun d => d.parameters.length) = some 2 := by decide +kernel
set_option maxRecDepth 100000 in
set_option maxHeartbeats 4000000 in
theorem wX6_digit_59 {p : Program} {l : Launch} {e : Env} {s : State} {m : MethodId} {args : Array Value} {below : List Frame} {meth : Method} {c : Code} {G : hp_G} {h0 : hp_H} {r : Int32} (X : hp_X p s m args meth c cX6_digit 3 RX6 wsX6_digit (some .int) G)  {x1 : Int32}   {t0 : Int32} {H : Heap} {locs : List Loc} {ls : Array Slot} (Y : hp_Y G h0 h0 s H locs) (hl : lv_has ls 3 [(1, .int x1)]) (hF : bX6_digit_59 x1 t0 = some r) : W p l e rmX6_digit s m args below meth c H locs 0 0 (MQ below (va_Qi (fun r' u => r' = r ∧ u = h0) (hp_B G h0) (hp_A h0)) args s 0 0 (hp_A h0)) (F0 m 59 ls [.int t0]) := by
  unfold bX6_digit_59 at hF
  refine lv_istore_n (lv' := [(2, .int t0), (1, .int x1)]) X.1 X.2.1 dX6_digit_59 rfl hl (by decide) rfl (fun ls hl => ?_)
  refine lv_iload_n X.1 X.2.1 dX6_digit_60 rfl (lv_at hl 0 rfl) ?_
  refine lv_iload_n X.1 X.2.1 dX6_digit_61 rfl (lv_at hl 1 rfl) ?_
  refine lv_icmp_ge (tgt := 69) X.1 X.2.1 dX6_digit_62 (by decide) (fun c1 => ?_) (fun c1 => ?_)
  · have hF := hp_ifp (c1) hF
    refine lv_iconst (v := -1) X.1 X.2.1 dX6_digit_69 (by decide) ?_
    cases hF
    exact hp_ri X Y rfl rfl dX6_digit_70
  · have hF := hp_ifn (c1) hF
    refine lv_iload_n X.1 X.2.1 dX6_digit_65 rfl (lv_at hl 0 rfl) ?_
    refine lv_goto (tgt := 70) X.1 X.2.1 dX6_digit_66 (by decide) ?_
    cases hF
    exact hp_ri X Y rfl rfl dX6_digit_70
set_option maxRecDepth 100000 in
set_option maxHeartbeats 4000000 in
theorem wX6_digit_57 {p : Program} {l : Launch} {e : Env} {s : State} {m : MethodId} {args : Array Value} {below : List Frame} {meth : Method} {c : Code} {G : hp_G} {h0 : hp_H} {r : Int32} (X : hp_X p s m args meth c cX6_digit 3 RX6 wsX6_digit (some .int) G)  {x1 : Int32}    {H : Heap} {locs : List Loc} {ls : Array Slot} (Y : hp_Y G h0 h0 s H locs) (hl : lv_has ls 3 [(1, .int x1)]) (hF : bX6_digit_57 x1 = some r) : W p l e rmX6_digit s m args below meth c H locs 0 0 (MQ below (va_Qi (fun r' u => r' = r ∧ u = h0) (hp_B G h0) (hp_A h0)) args s 0 0 (hp_A h0)) (F0 m 57 ls []) := by
  unfold bX6_digit_57 at hF
  refine lv_bipush (v := 16) X.1 X.2.1 dX6_digit_57 (by decide) ?_
  exact wX6_digit_59 X  Y (lv_sub hl [0] rfl) hF
set_option maxRecDepth 100000 in
set_option maxHeartbeats 4000000 in
theorem wX6_digit_38 {p : Program} {l : Launch} {e : Env} {s : State} {m : MethodId} {args : Array Value} {below : List Frame} {meth : Method} {c : Code} {G : hp_G} {h0 : hp_H} {r : Int32} (X : hp_X p s m args meth c cX6_digit 3 RX6 wsX6_digit (some .int) G)  {x0 : Int32} {x1 : Int32}    {H : Heap} {locs : List Loc} {ls : Array Slot} (Y : hp_Y G h0 h0 s H locs) (hl : lv_has ls 3 [(0, .int x0), (1, .int x1)]) (hF : bX6_digit_38 x0 x1 = some r) : W p l e rmX6_digit s m args below meth c H locs 0 0 (MQ below (va_Qi (fun r' u => r' = r ∧ u = h0) (hp_B G h0) (hp_A h0)) args s 0 0 (hp_A h0)) (F0 m 38 ls []) := by
  unfold bX6_digit_38 at hF
  refine lv_iload_n X.1 X.2.1 dX6_digit_38 rfl (lv_at hl 0 rfl) ?_
  refine lv_bipush (v := 65) X.1 X.2.1 dX6_digit_39 (by decide) ?_
  refine lv_icmp_lt (tgt := 57) X.1 X.2.1 dX6_digit_41 (by decide) (fun c1 => ?_) (fun c1 => ?_)
  · have hF := hp_ifp (c1) hF
    exact wX6_digit_57 X  Y (lv_sub hl [1] rfl) hF
  · have hF := hp_ifn (c1) hF
    refine lv_iload_n X.1 X.2.1 dX6_digit_44 rfl (lv_at hl 0 rfl) ?_
    refine lv_bipush (v := 70) X.1 X.2.1 dX6_digit_45 (by decide) ?_
    refine lv_icmp_gt (tgt := 57) X.1 X.2.1 dX6_digit_47 (by decide) (fun c2 => ?_) (fun c2 => ?_)
    · have hF := hp_ifp (c2) hF
      exact wX6_digit_57 X  Y (lv_sub hl [1] rfl) hF
    · have hF := hp_ifn (c2) hF
      refine lv_iload_n X.1 X.2.1 dX6_digit_50 rfl (lv_at hl 0 rfl) ?_
      refine lv_bipush (v := 55) X.1 X.2.1 dX6_digit_51 (by decide) ?_
      refine lv_isub X.1 X.2.1 dX6_digit_53 ?_
      refine lv_goto (tgt := 59) X.1 X.2.1 dX6_digit_54 (by decide) ?_
      exact wX6_digit_59 X  Y (lv_sub hl [1] rfl) hF
set_option maxRecDepth 100000 in
set_option maxHeartbeats 4000000 in
theorem wX6_digit_19 {p : Program} {l : Launch} {e : Env} {s : State} {m : MethodId} {args : Array Value} {below : List Frame} {meth : Method} {c : Code} {G : hp_G} {h0 : hp_H} {r : Int32} (X : hp_X p s m args meth c cX6_digit 3 RX6 wsX6_digit (some .int) G)  {x0 : Int32} {x1 : Int32}    {H : Heap} {locs : List Loc} {ls : Array Slot} (Y : hp_Y G h0 h0 s H locs) (hl : lv_has ls 3 [(0, .int x0), (1, .int x1)]) (hF : bX6_digit_19 x0 x1 = some r) : W p l e rmX6_digit s m args below meth c H locs 0 0 (MQ below (va_Qi (fun r' u => r' = r ∧ u = h0) (hp_B G h0) (hp_A h0)) args s 0 0 (hp_A h0)) (F0 m 19 ls []) := by
  unfold bX6_digit_19 at hF
  refine lv_iload_n X.1 X.2.1 dX6_digit_19 rfl (lv_at hl 0 rfl) ?_
  refine lv_bipush (v := 97) X.1 X.2.1 dX6_digit_20 (by decide) ?_
  refine lv_icmp_lt (tgt := 38) X.1 X.2.1 dX6_digit_22 (by decide) (fun c1 => ?_) (fun c1 => ?_)
  · have hF := hp_ifp (c1) hF
    exact wX6_digit_38 X  Y (lv_sub hl [0, 1] rfl) hF
  · have hF := hp_ifn (c1) hF
    refine lv_iload_n X.1 X.2.1 dX6_digit_25 rfl (lv_at hl 0 rfl) ?_
    refine lv_bipush (v := 102) X.1 X.2.1 dX6_digit_26 (by decide) ?_
    refine lv_icmp_gt (tgt := 38) X.1 X.2.1 dX6_digit_28 (by decide) (fun c2 => ?_) (fun c2 => ?_)
    · have hF := hp_ifp (c2) hF
      exact wX6_digit_38 X  Y (lv_sub hl [0, 1] rfl) hF
    · have hF := hp_ifn (c2) hF
      refine lv_iload_n X.1 X.2.1 dX6_digit_31 rfl (lv_at hl 0 rfl) ?_
      refine lv_bipush (v := 87) X.1 X.2.1 dX6_digit_32 (by decide) ?_
      refine lv_isub X.1 X.2.1 dX6_digit_34 ?_
      refine lv_goto (tgt := 59) X.1 X.2.1 dX6_digit_35 (by decide) ?_
      exact wX6_digit_59 X  Y (lv_sub hl [1] rfl) hF
set_option maxRecDepth 100000 in
set_option maxHeartbeats 4000000 in
theorem mX6_digit (l : Launch) (G : hp_G) {x0 : Int32} {x1 : Int32} {h : hp_H} {r : Int32} (hF : fX6_digit x0 x1 = some r) : Met l yX6_digit wsX6_digit rmX6_digit (va_Pc [.int x0, .int x1] (hp_S G h)) (va_Qi (fun r' u => r' = r ∧ u = h) (hp_B G h) (hp_A h)) 0 0 (hp_A h) := by
  refine hp_met (cc := cX6_digit) (nL := 3) (ret := (some .int)) (by decide) rfl ?_
  intro p e s m below meth c X Y
  have hl := lv_entry ([.int x0, .int x1]) (n := 3) (Nat.le_of_ble_eq_true rfl)
  rw [lg_entry_eq]
  generalize (lg_sl ([.int x0, .int x1]) ++ List.replicate (3 - (lg_sl ([.int x0, .int x1])).length) Slot.unset).toArray = ls at hl ⊢
  have hl : lv_has ls 3 [(0, .int x0), (1, .int x1)] := hl
  unfold fX6_digit at hF
  refine lv_iload_n X.1 X.2.1 dX6_digit_0 rfl (lv_at hl 0 rfl) ?_
  refine lv_bipush (v := 48) X.1 X.2.1 dX6_digit_1 (by decide) ?_
  refine lv_icmp_lt (tgt := 19) X.1 X.2.1 dX6_digit_3 (by decide) (fun c1 => ?_) (fun c1 => ?_)
  · have hF := hp_ifp (c1) hF
    exact wX6_digit_19 X  Y (lv_sub hl [0, 1] rfl) hF
  · have hF := hp_ifn (c1) hF
    refine lv_iload_n X.1 X.2.1 dX6_digit_6 rfl (lv_at hl 0 rfl) ?_
    refine lv_bipush (v := 57) X.1 X.2.1 dX6_digit_7 (by decide) ?_
    refine lv_icmp_gt (tgt := 19) X.1 X.2.1 dX6_digit_9 (by decide) (fun c2 => ?_) (fun c2 => ?_)
    · have hF := hp_ifp (c2) hF
      exact wX6_digit_19 X  Y (lv_sub hl [0, 1] rfl) hF
    · have hF := hp_ifn (c2) hF
      refine lv_iload_n X.1 X.2.1 dX6_digit_12 rfl (lv_at hl 0 rfl) ?_
      refine lv_bipush (v := 48) X.1 X.2.1 dX6_digit_13 (by decide) ?_
      refine lv_isub X.1 X.2.1 dX6_digit_15 ?_
      refine lv_goto (tgt := 59) X.1 X.2.1 dX6_digit_16 (by decide) ?_
      exact wX6_digit_59 X  Y (lv_sub hl [1] rfl) hF

/-! WholeNumbersModel.read -/
def rmX6_read : Room := { frames := 4, cells := 0, slots := 0, locals := 93 }
def bX6_read_169   (t0 : Nat) (t1 : Int32) (t2 : Nat) (t3 : Int32) (t4 : Int32) (h : hp_H) : Option (Int32 × hp_H) :=
  (fX6_put t0 t1 t2 t3 t4 h).bind fun (v3, h2) =>
  some (v3, h2)
def bX6_read_80  (x0 : Nat) (x1 : Int32) (x2 : Int32) (x3 : Int32) : Nat → Int32 → hp_H → Option (Int32 × hp_H)
  | 0, _, _ => none
  | n + 1, x5, h =>
  (hp_gi h x0 6 13).bind fun v1 =>
  if v1 ≤ x5 then (
    (hp_gr h x0 6 6).bind fun v4 =>
    (hp_gi h x0 6 9).bind fun v6 =>
    if x3 = 0 then (
      bX6_read_169 x0 x1 v4 v6 (1 : Int32) h)
    else (
      bX6_read_169 x0 x1 v4 v6 (-1 : Int32) h))
  else (
    (hp_gr h x0 6 12).bind fun v9 =>
    (hp_ai h 0 v9 x5).bind fun v11 =>
    (fX6_digit v11 x2).bind fun v14 =>
    if 0 ≤ v14 then (
      (hp_gr h x0 6 6).bind fun v16 =>
      (hp_gi h x0 6 9).bind fun v18 =>
      (fX6_scaled v16 v18 x2 v14 h).bind fun (v22, h21) =>
      (hp_pv h21 x0 6 9 (.int v22)).bind fun h24 =>
      (hp_gr h24 x0 6 6).bind fun v26 =>
      (hp_gi h24 x0 6 9).bind fun v28 =>
      (fX6_isWithin x0 v26 v28 h24).bind fun v31 =>
      if v31 = 0 then (
        some ((-1 : Int32), h24))
      else (
        (some (x5 + (1 : Int32))).bind fun v33 =>
        bX6_read_80 x0 x1 x2 x3 n v33 h24))
    else (
      some ((-1 : Int32), h)))
def bX6_read_58  (x0 : Nat) (x1 : Int32) (x2 : Int32) (x3 : Int32) (t0 : Int32) (h : hp_H) : Option (Int32 × hp_H) :=
  (hp_gi h x0 6 13).bind fun v1 =>
  if v1 = t0 then (
    some ((-1 : Int32), h))
  else (
    (hp_pv h x0 6 9 (.int (0 : Int32))).bind fun h4 =>
    bX6_read_80 x0 x1 x2 x3 hp_n t0 h4)
def bX6_read_48  (x0 : Nat) (x1 : Int32) (x2 : Int32) (t0 : Int32) (h : hp_H) : Option (Int32 × hp_H) :=
  if t0 = 0 then (
    bX6_read_58 x0 x1 x2 t0 (0 : Int32) h)
  else (
    bX6_read_58 x0 x1 x2 t0 (1 : Int32) h)
def bX6_read_47  (x0 : Nat) (x1 : Int32) (x2 : Int32)  (h : hp_H) : Option (Int32 × hp_H) :=
  bX6_read_48 x0 x1 x2 (0 : Int32) h
def fX6_read (x0 : Nat) (x1 : Int32) (x2 : Int32) (h : hp_H) : Option (Int32 × hp_H) :=
  if hp_o h x0 6 = true then
  (hp_pv h x0 6 11 (.int (0 : Int32))).bind fun h1 =>
  (fX6_isRegister x1).bind fun v4 =>
  if v4 = 0 then (
    some ((-1 : Int32), h1))
  else (
    if x2 < (2 : Int32) then (
      some ((-1 : Int32), h1))
    else (
      if x2 ≤ (16 : Int32) then (
        (hp_gi h1 x0 6 13).bind fun v8 =>
        if v8 ≤ 0 then (
          bX6_read_47 x0 x1 x2 h1)
        else (
          (hp_gr h1 x0 6 12).bind fun v11 =>
          (hp_ai h1 0 v11 (0 : Int32)).bind fun v13 =>
          if v13 = (45 : Int32) then (
            bX6_read_48 x0 x1 x2 (1 : Int32) h1)
          else (
            bX6_read_47 x0 x1 x2 h1)))
      else (
        some ((-1 : Int32), h1))))
  else none
theorem inX6_read_X6 : ∀ w ∈ wsX60, w ∈ wsX6_read := by decide +kernel
theorem lkX6_read_f123 : Cond.fieldLink RX6 123 (TX6 13).1 (TX6 13).2.1 (TX6 13).2.2.1 ∈ wsX6_read := by decide +kernel
theorem lkX6_read_f25 : Cond.fieldLink RX6 25 (TX6 6).1 (TX6 6).2.1 (TX6 6).2.2.1 ∈ wsX6_read := by decide +kernel
theorem lkX6_read_f55 : Cond.fieldLink RX6 55 (TX6 9).1 (TX6 9).2.1 (TX6 9).2.2.1 ∈ wsX6_read := by decide +kernel
theorem lkX6_read_f31 : Cond.fieldLink RX6 31 (TX6 12).1 (TX6 12).2.1 (TX6 12).2.2.1 ∈ wsX6_read := by decide +kernel
theorem lkX6_read_f45 : Cond.fieldLink RX6 45 (TX6 11).1 (TX6 11).2.1 (TX6 11).2.2.1 ∈ wsX6_read := by decide +kernel
theorem ndX6_read : yX6_read.cls ≠ "java/lang/invoke/MethodHandle" ∧ yX6_read.cls ≠ "java/lang/invoke/VarHandle" ∧ (parseMethodDescriptor yX6_read.desc).map (fun d => d.parameters.length) = some 2 := by decide +kernel
set_option maxRecDepth 100000 in
set_option maxHeartbeats 4000000 in
theorem wX6_read_169 {p : Program} {l : Launch} {e : Env} {s : State} {m : MethodId} {args : Array Value} {below : List Frame} {meth : Method} {c : Code} {G : hp_G} {h0 h' : hp_H} {r : Int32} (X : hp_X p s m args meth c cX6_read 7 RX6 wsX6_read (some .int) G)     {t0 : Nat} {t1 : Int32} {t2 : Nat} {t3 : Int32} {t4 : Int32} {h : hp_H} {H : Heap} {locs : List Loc} {ls : Array Slot} (Y : hp_Y G h h0 s H locs) (hl : lv_has ls 7 []) (hF : bX6_read_169  t0 t1 t2 t3 t4 h = some (r, h')) : W p l e rmX6_read s m args below meth c H locs 0 0 (MQ below (va_Qi (fun r' u => r' = r ∧ u = h') (hp_B G h0) (hp_A h0)) args s 0 0 (hp_A h0)) (F0 m 169 ls [.int t4, .int t3, .ref t2, .int t1, .ref t0]) := by
  unfold bX6_read_169 at hF
  obtain ⟨⟨v3, h2⟩, e1, hF⟩ := hp_b hF
  refine hp_ci Y (hp_runV X Y (ci := 6) (As := [.int t1, .ref t2, .int t3, .int t4]) (n := 4) (T := TX6) (N := 14) (mX6_put l G e1) rfl (oX6_put e1) gX6_read_X6_put rfl rfl rfl ndX6_put ⟨Nat.le_of_ble_eq_true rfl, Nat.le_of_ble_eq_true rfl⟩ rfl hl.1 rfl (Nat.le_of_ble_eq_true rfl) dX6_read_169 ⟨Nat.zero_le _, Nat.zero_le _⟩) (fun H locs Y => ?_)
  cases hF
  exact hp_ri X Y rfl rfl dX6_read_172
set_option maxRecDepth 100000 in
set_option maxHeartbeats 4000000 in
theorem wX6_read_80 {p : Program} {l : Launch} {e : Env} {s : State} {m : MethodId} {args : Array Value} {below : List Frame} {meth : Method} {c : Code} {G : hp_G} {h0 h' : hp_H} {r : Int32} (X : hp_X p s m args meth c cX6_read 7 RX6 wsX6_read (some .int) G)  {x0 : Nat} {x1 : Int32} {x2 : Int32} {x3 : Int32}   : ∀ (n : Nat) {x5 : Int32} {h : hp_H} {H : Heap} {locs : List Loc} {ls : Array Slot} (Y : hp_Y G h h0 s H locs) (hl : lv_has ls 7 [(0, .ref x0), (1, .int x1), (2, .int x2), (3, .int x3), (5, .int x5)]) (hF : bX6_read_80 x0 x1 x2 x3 n x5 h = some (r, h')), W p l e rmX6_read s m args below meth c H locs 0 0 (MQ below (va_Qi (fun r' u => r' = r ∧ u = h') (hp_B G h0) (hp_A h0)) args s 0 0 (hp_A h0)) (F0 m 80 ls []) := by
  intro n
  induction n with
  | zero =>
    intro x5 h H locs ls Y hl hF
    exact absurd (show none = some _ from hF) (by simp)
  | succ n ih =>
    intro x5 h H locs ls Y hl hF
    rw [bX6_read_80] at hF
    refine lv_iload X.1 X.2.1 dX6_read_80 (lv_at hl 4 rfl) ?_
    refine lv_aload_n X.1 X.2.1 dX6_read_82 rfl (lv_at hl 0 rfl) ?_
    obtain ⟨v1, e2, hF⟩ := hp_b hF
    refine hp_geti X Y (C := RX6) (T := TX6) (N := 14) (ci := 6) (k := 13) rfl inX6_read_X6 (by decide) lkX6_read_f123 e2 dX6_read_83 ?_
    refine lv_icmp_ge (tgt := 150) X.1 X.2.1 dX6_read_86 (by decide) (fun c3 => ?_) (fun c3 => ?_)
    · have hF := hp_ifp (c3) hF
      refine lv_aload_n X.1 X.2.1 dX6_read_150 rfl (lv_at hl 0 rfl) ?_
      refine lv_iload_n X.1 X.2.1 dX6_read_151 rfl (lv_at hl 1 rfl) ?_
      refine lv_aload_n X.1 X.2.1 dX6_read_152 rfl (lv_at hl 0 rfl) ?_
      obtain ⟨v4, e5, hF⟩ := hp_b hF
      refine hp_getr X Y (C := RX6) (T := TX6) (N := 14) (ci := 6) (k := 6) rfl inX6_read_X6 (by decide) lkX6_read_f25 e5 dX6_read_153 ?_
      refine lv_aload_n X.1 X.2.1 dX6_read_156 rfl (lv_at hl 0 rfl) ?_
      obtain ⟨v6, e7, hF⟩ := hp_b hF
      refine hp_geti X Y (C := RX6) (T := TX6) (N := 14) (ci := 6) (k := 9) rfl inX6_read_X6 (by decide) lkX6_read_f55 e7 dX6_read_157 ?_
      refine lv_iload_n X.1 X.2.1 dX6_read_160 rfl (lv_at hl 3 rfl) ?_
      refine lv_if_eq (tgt := 168) X.1 X.2.1 dX6_read_161 (by decide) (fun c8 => ?_) (fun c8 => ?_)
      · have hF := hp_ifp (c8) hF
        refine lv_iconst (v := 1) X.1 X.2.1 dX6_read_168 (by decide) ?_
        exact wX6_read_169 X  Y (lv_sub hl [] rfl) hF
      · have hF := hp_ifn (c8) hF
        refine lv_iconst (v := -1) X.1 X.2.1 dX6_read_164 (by decide) ?_
        refine lv_goto (tgt := 169) X.1 X.2.1 dX6_read_165 (by decide) ?_
        exact wX6_read_169 X  Y (lv_sub hl [] rfl) hF
    · have hF := hp_ifn (c3) hF
      refine lv_aload_n X.1 X.2.1 dX6_read_89 rfl (lv_at hl 0 rfl) ?_
      obtain ⟨v9, e10, hF⟩ := hp_b hF
      refine hp_getr X Y (C := RX6) (T := TX6) (N := 14) (ci := 6) (k := 12) rfl inX6_read_X6 (by decide) lkX6_read_f31 e10 dX6_read_90 ?_
      refine lv_iload X.1 X.2.1 dX6_read_93 (lv_at hl 4 rfl) ?_
      obtain ⟨v11, e12, hF⟩ := hp_b hF
      refine hp_iald X Y e12 dX6_read_95 ?_
      refine lv_iload_n X.1 X.2.1 dX6_read_96 rfl (lv_at hl 2 rfl) ?_
      obtain ⟨v14, e13, hF⟩ := hp_b hF
      refine hp_ci Y (hp_runS X Y (As := [.int v11, .int x2]) (n := 2) (mX6_digit l G e13) gX6_read_X6_digit rfl rfl rfl ndX6_digit ⟨Nat.le_of_ble_eq_true rfl, Nat.le_of_ble_eq_true rfl⟩ rfl hl.1 rfl (Nat.le_of_ble_eq_true rfl) dX6_read_97 ⟨Nat.zero_le _, Nat.zero_le _⟩) (fun H locs Y => ?_)
      refine lv_istore (lv' := [(6, .int v14), (0, .ref x0), (1, .int x1), (2, .int x2), (3, .int x3), (5, .int x5)]) X.1 X.2.1 dX6_read_100 hl (by decide) rfl (fun ls hl => ?_)
      refine lv_iload X.1 X.2.1 dX6_read_102 (lv_at hl 0 rfl) ?_
      refine lv_if_ge (tgt := 109) X.1 X.2.1 dX6_read_104 (by decide) (fun c15 => ?_) (fun c15 => ?_)
      · have hF := hp_ifp (c15) hF
        refine lv_aload_n X.1 X.2.1 dX6_read_109 rfl (lv_at hl 1 rfl) ?_
        refine lv_aload_n X.1 X.2.1 dX6_read_110 rfl (lv_at hl 1 rfl) ?_
        obtain ⟨v16, e17, hF⟩ := hp_b hF
        refine hp_getr X Y (C := RX6) (T := TX6) (N := 14) (ci := 6) (k := 6) rfl inX6_read_X6 (by decide) lkX6_read_f25 e17 dX6_read_111 ?_
        refine lv_aload_n X.1 X.2.1 dX6_read_114 rfl (lv_at hl 1 rfl) ?_
        obtain ⟨v18, e19, hF⟩ := hp_b hF
        refine hp_geti X Y (C := RX6) (T := TX6) (N := 14) (ci := 6) (k := 9) rfl inX6_read_X6 (by decide) lkX6_read_f55 e19 dX6_read_115 ?_
        refine lv_iload_n X.1 X.2.1 dX6_read_118 rfl (lv_at hl 3 rfl) ?_
        refine lv_iload X.1 X.2.1 dX6_read_119 (lv_at hl 0 rfl) ?_
        obtain ⟨⟨v22, h21⟩, e20, hF⟩ := hp_b hF
        refine hp_ci Y (hp_runS X Y (As := [.ref v16, .int v18, .int x2, .int v14]) (n := 4) (mX6_scaled l G e20) gX6_read_X6_scaled rfl rfl rfl ndX6_scaled ⟨Nat.le_of_ble_eq_true rfl, Nat.le_of_ble_eq_true rfl⟩ rfl hl.1 rfl (Nat.le_of_ble_eq_true rfl) dX6_read_121 ⟨Nat.zero_le _, Nat.zero_le _⟩) (fun H locs Y => ?_)
        obtain ⟨h24, e25, hF⟩ := hp_b hF
        refine hp_put X Y (C := RX6) (T := TX6) (N := 14) (ci := 6) (k := 9) (ty0 := tyX6) rfl inX6_read_X6 tyX6_ok nmX6 (by decide) lkX6_read_f55 rfl rfl rfl e25 dX6_read_124 (fun H locs Y => ?_)
        refine lv_aload_n X.1 X.2.1 dX6_read_127 rfl (lv_at hl 1 rfl) ?_
        refine lv_aload_n X.1 X.2.1 dX6_read_128 rfl (lv_at hl 1 rfl) ?_
        obtain ⟨v26, e27, hF⟩ := hp_b hF
        refine hp_getr X Y (C := RX6) (T := TX6) (N := 14) (ci := 6) (k := 6) rfl inX6_read_X6 (by decide) lkX6_read_f25 e27 dX6_read_129 ?_
        refine lv_aload_n X.1 X.2.1 dX6_read_132 rfl (lv_at hl 1 rfl) ?_
        obtain ⟨v28, e29, hF⟩ := hp_b hF
        refine hp_geti X Y (C := RX6) (T := TX6) (N := 14) (ci := 6) (k := 9) rfl inX6_read_X6 (by decide) lkX6_read_f55 e29 dX6_read_133 ?_
        obtain ⟨v31, e30, hF⟩ := hp_b hF
        refine hp_ci Y (hp_runV X Y (ci := 6) (As := [.ref v26, .int v28]) (n := 2) (T := TX6) (N := 14) (mX6_isWithin l G e30) rfl (oX6_isWithin e30) gX6_read_X6_isWithin rfl rfl rfl ndX6_isWithin ⟨Nat.le_of_ble_eq_true rfl, Nat.le_of_ble_eq_true rfl⟩ rfl hl.1 rfl (Nat.le_of_ble_eq_true rfl) dX6_read_136 ⟨Nat.zero_le _, Nat.zero_le _⟩) (fun H locs Y => ?_)
        refine lv_if_ne (tgt := 144) X.1 X.2.1 dX6_read_139 (by decide) (fun c32 => ?_) (fun c32 => ?_)
        · have hF := hp_ifn (c32) hF
          obtain ⟨v33, e34, hF⟩ := hp_b hF
          refine lv_iinc (v := v33) (lv' := [(5, .int v33), (6, .int v14), (0, .ref x0), (1, .int x1), (2, .int x2), (3, .int x3)]) X.1 X.2.1 dX6_read_144 hl (k := 5) rfl (Option.some.inj e34) (by decide) rfl (fun ls hl => ?_)
          refine lv_goto (tgt := 80) X.1 X.2.1 dX6_read_147 (by decide) ?_
          exact ih Y (lv_sub hl [2, 3, 4, 5, 0] rfl) hF
        · have hF := hp_ifp (c32) hF
          refine lv_iconst (v := -1) X.1 X.2.1 dX6_read_142 (by decide) ?_
          cases hF
          exact hp_ri X Y rfl rfl dX6_read_143
      · have hF := hp_ifn (c15) hF
        refine lv_iconst (v := -1) X.1 X.2.1 dX6_read_107 (by decide) ?_
        cases hF
        exact hp_ri X Y rfl rfl dX6_read_108
set_option maxRecDepth 100000 in
set_option maxHeartbeats 4000000 in
theorem wX6_read_58 {p : Program} {l : Launch} {e : Env} {s : State} {m : MethodId} {args : Array Value} {below : List Frame} {meth : Method} {c : Code} {G : hp_G} {h0 h' : hp_H} {r : Int32} (X : hp_X p s m args meth c cX6_read 7 RX6 wsX6_read (some .int) G)  {x0 : Nat} {x1 : Int32} {x2 : Int32} {x3 : Int32}   {t0 : Int32} {h : hp_H} {H : Heap} {locs : List Loc} {ls : Array Slot} (Y : hp_Y G h h0 s H locs) (hl : lv_has ls 7 [(0, .ref x0), (1, .int x1), (2, .int x2), (3, .int x3)]) (hF : bX6_read_58 x0 x1 x2 x3 t0 h = some (r, h')) : W p l e rmX6_read s m args below meth c H locs 0 0 (MQ below (va_Qi (fun r' u => r' = r ∧ u = h') (hp_B G h0) (hp_A h0)) args s 0 0 (hp_A h0)) (F0 m 58 ls [.int t0]) := by
  unfold bX6_read_58 at hF
  refine lv_istore (lv' := [(4, .int t0), (0, .ref x0), (1, .int x1), (2, .int x2), (3, .int x3)]) X.1 X.2.1 dX6_read_58 hl (by decide) rfl (fun ls hl => ?_)
  refine lv_aload_n X.1 X.2.1 dX6_read_60 rfl (lv_at hl 1 rfl) ?_
  obtain ⟨v1, e2, hF⟩ := hp_b hF
  refine hp_geti X Y (C := RX6) (T := TX6) (N := 14) (ci := 6) (k := 13) rfl inX6_read_X6 (by decide) lkX6_read_f123 e2 dX6_read_61 ?_
  refine lv_iload X.1 X.2.1 dX6_read_64 (lv_at hl 0 rfl) ?_
  refine lv_icmp_ne (tgt := 71) X.1 X.2.1 dX6_read_66 (by decide) (fun c3 => ?_) (fun c3 => ?_)
  · have hF := hp_ifn (c3) hF
    refine lv_aload_n X.1 X.2.1 dX6_read_71 rfl (lv_at hl 1 rfl) ?_
    refine lv_iconst (v := 0) X.1 X.2.1 dX6_read_72 (by decide) ?_
    obtain ⟨h4, e5, hF⟩ := hp_b hF
    refine hp_put X Y (C := RX6) (T := TX6) (N := 14) (ci := 6) (k := 9) (ty0 := tyX6) rfl inX6_read_X6 tyX6_ok nmX6 (by decide) lkX6_read_f55 rfl rfl rfl e5 dX6_read_73 (fun H locs Y => ?_)
    refine lv_iload X.1 X.2.1 dX6_read_76 (lv_at hl 0 rfl) ?_
    refine lv_istore (lv' := [(5, .int t0), (4, .int t0), (0, .ref x0), (1, .int x1), (2, .int x2), (3, .int x3)]) X.1 X.2.1 dX6_read_78 hl (by decide) rfl (fun ls hl => ?_)
    exact wX6_read_80 X  hp_n Y (lv_sub hl [2, 3, 4, 5, 0] rfl) hF
  · have hF := hp_ifp (c3) hF
    refine lv_iconst (v := -1) X.1 X.2.1 dX6_read_69 (by decide) ?_
    cases hF
    exact hp_ri X Y rfl rfl dX6_read_70
set_option maxRecDepth 100000 in
set_option maxHeartbeats 4000000 in
theorem wX6_read_48 {p : Program} {l : Launch} {e : Env} {s : State} {m : MethodId} {args : Array Value} {below : List Frame} {meth : Method} {c : Code} {G : hp_G} {h0 h' : hp_H} {r : Int32} (X : hp_X p s m args meth c cX6_read 7 RX6 wsX6_read (some .int) G)  {x0 : Nat} {x1 : Int32} {x2 : Int32}   {t0 : Int32} {h : hp_H} {H : Heap} {locs : List Loc} {ls : Array Slot} (Y : hp_Y G h h0 s H locs) (hl : lv_has ls 7 [(0, .ref x0), (1, .int x1), (2, .int x2)]) (hF : bX6_read_48 x0 x1 x2 t0 h = some (r, h')) : W p l e rmX6_read s m args below meth c H locs 0 0 (MQ below (va_Qi (fun r' u => r' = r ∧ u = h') (hp_B G h0) (hp_A h0)) args s 0 0 (hp_A h0)) (F0 m 48 ls [.int t0]) := by
  unfold bX6_read_48 at hF
  refine lv_istore_n (lv' := [(3, .int t0), (0, .ref x0), (1, .int x1), (2, .int x2)]) X.1 X.2.1 dX6_read_48 rfl hl (by decide) rfl (fun ls hl => ?_)
  refine lv_iload_n X.1 X.2.1 dX6_read_49 rfl (lv_at hl 0 rfl) ?_
  refine lv_if_eq (tgt := 57) X.1 X.2.1 dX6_read_50 (by decide) (fun c1 => ?_) (fun c1 => ?_)
  · have hF := hp_ifp (c1) hF
    refine lv_iconst (v := 0) X.1 X.2.1 dX6_read_57 (by decide) ?_
    exact wX6_read_58 X  Y (lv_sub hl [1, 2, 3, 0] rfl) hF
  · have hF := hp_ifn (c1) hF
    refine lv_iconst (v := 1) X.1 X.2.1 dX6_read_53 (by decide) ?_
    refine lv_goto (tgt := 58) X.1 X.2.1 dX6_read_54 (by decide) ?_
    exact wX6_read_58 X  Y (lv_sub hl [1, 2, 3, 0] rfl) hF
set_option maxRecDepth 100000 in
set_option maxHeartbeats 4000000 in
theorem wX6_read_47 {p : Program} {l : Launch} {e : Env} {s : State} {m : MethodId} {args : Array Value} {below : List Frame} {meth : Method} {c : Code} {G : hp_G} {h0 h' : hp_H} {r : Int32} (X : hp_X p s m args meth c cX6_read 7 RX6 wsX6_read (some .int) G)  {x0 : Nat} {x1 : Int32} {x2 : Int32}   {h : hp_H} {H : Heap} {locs : List Loc} {ls : Array Slot} (Y : hp_Y G h h0 s H locs) (hl : lv_has ls 7 [(0, .ref x0), (1, .int x1), (2, .int x2)]) (hF : bX6_read_47 x0 x1 x2 h = some (r, h')) : W p l e rmX6_read s m args below meth c H locs 0 0 (MQ below (va_Qi (fun r' u => r' = r ∧ u = h') (hp_B G h0) (hp_A h0)) args s 0 0 (hp_A h0)) (F0 m 47 ls []) := by
  unfold bX6_read_47 at hF
  refine lv_iconst (v := 0) X.1 X.2.1 dX6_read_47 (by decide) ?_
  exact wX6_read_48 X  Y (lv_sub hl [0, 1, 2] rfl) hF
theorem oX6_read {x0 : Nat} {x1 : Int32} {x2 : Int32} {h h' : hp_H} {r : Int32} (hF : fX6_read x0 x1 x2 h = some (r, h')) : hp_o h x0 6 = true := by
  unfold fX6_read at hF
  exact (hp_ift hF).1
set_option maxRecDepth 100000 in
set_option maxHeartbeats 4000000 in
theorem mX6_read (l : Launch) (G : hp_G) {x0 : Nat} {x1 : Int32} {x2 : Int32} {h h' : hp_H} {r : Int32} (hF : fX6_read x0 x1 x2 h = some (r, h')) : Met l yX6_read wsX6_read rmX6_read (va_Pc [.ref x0, .int x1, .int x2] (hp_S G h)) (va_Qi (fun r' u => r' = r ∧ u = h') (hp_B G h) (hp_A h)) 0 0 (hp_A h) := by
  refine hp_met (cc := cX6_read) (nL := 7) (ret := (some .int)) (by decide) rfl ?_
  intro p e s m below meth c X Y
  have hl := lv_entry ([.ref x0, .int x1, .int x2]) (n := 7) (Nat.le_of_ble_eq_true rfl)
  rw [lg_entry_eq]
  generalize (lg_sl ([.ref x0, .int x1, .int x2]) ++ List.replicate (7 - (lg_sl ([.ref x0, .int x1, .int x2])).length) Slot.unset).toArray = ls at hl ⊢
  have hl : lv_has ls 7 [(0, .ref x0), (1, .int x1), (2, .int x2)] := hl
  unfold fX6_read at hF
  obtain ⟨ho, hF⟩ := hp_ift hF
  refine lv_aload_n X.1 X.2.1 dX6_read_0 rfl (lv_at hl 0 rfl) ?_
  refine lv_iconst (v := 0) X.1 X.2.1 dX6_read_1 (by decide) ?_
  obtain ⟨h1, e2, hF⟩ := hp_b hF
  refine hp_put X Y (C := RX6) (T := TX6) (N := 14) (ci := 6) (k := 11) (ty0 := tyX6) rfl inX6_read_X6 tyX6_ok nmX6 (by decide) lkX6_read_f45 rfl rfl rfl e2 dX6_read_2 (fun H locs Y => ?_)
  refine lv_iload_n X.1 X.2.1 dX6_read_5 rfl (lv_at hl 1 rfl) ?_
  obtain ⟨v4, e3, hF⟩ := hp_b hF
  refine hp_ci Y (hp_runS X Y (As := [.int x1]) (n := 1) (mX6_isRegister l G e3) gX6_read_X6_isRegister rfl rfl rfl ndX6_isRegister ⟨Nat.le_of_ble_eq_true rfl, Nat.le_of_ble_eq_true rfl⟩ rfl hl.1 rfl (Nat.le_of_ble_eq_true rfl) dX6_read_6 ⟨Nat.zero_le _, Nat.zero_le _⟩) (fun H locs Y => ?_)
  refine lv_if_eq (tgt := 23) X.1 X.2.1 dX6_read_9 (by decide) (fun c5 => ?_) (fun c5 => ?_)
  · have hF := hp_ifp (c5) hF
    refine lv_iconst (v := -1) X.1 X.2.1 dX6_read_23 (by decide) ?_
    cases hF
    exact hp_ri X Y rfl rfl dX6_read_24
  · have hF := hp_ifn (c5) hF
    refine lv_iload_n X.1 X.2.1 dX6_read_12 rfl (lv_at hl 2 rfl) ?_
    refine lv_iconst (v := 2) X.1 X.2.1 dX6_read_13 (by decide) ?_
    refine lv_icmp_lt (tgt := 23) X.1 X.2.1 dX6_read_14 (by decide) (fun c6 => ?_) (fun c6 => ?_)
    · have hF := hp_ifp (c6) hF
      refine lv_iconst (v := -1) X.1 X.2.1 dX6_read_23 (by decide) ?_
      cases hF
      exact hp_ri X Y rfl rfl dX6_read_24
    · have hF := hp_ifn (c6) hF
      refine lv_iload_n X.1 X.2.1 dX6_read_17 rfl (lv_at hl 2 rfl) ?_
      refine lv_bipush (v := 16) X.1 X.2.1 dX6_read_18 (by decide) ?_
      refine lv_icmp_le (tgt := 25) X.1 X.2.1 dX6_read_20 (by decide) (fun c7 => ?_) (fun c7 => ?_)
      · have hF := hp_ifp (c7) hF
        refine lv_aload_n X.1 X.2.1 dX6_read_25 rfl (lv_at hl 0 rfl) ?_
        obtain ⟨v8, e9, hF⟩ := hp_b hF
        refine hp_geti X Y (C := RX6) (T := TX6) (N := 14) (ci := 6) (k := 13) rfl inX6_read_X6 (by decide) lkX6_read_f123 e9 dX6_read_26 ?_
        refine lv_if_le (tgt := 47) X.1 X.2.1 dX6_read_29 (by decide) (fun c10 => ?_) (fun c10 => ?_)
        · have hF := hp_ifp (c10) hF
          exact wX6_read_47 X  Y (lv_sub hl [0, 1, 2] rfl) hF
        · have hF := hp_ifn (c10) hF
          refine lv_aload_n X.1 X.2.1 dX6_read_32 rfl (lv_at hl 0 rfl) ?_
          obtain ⟨v11, e12, hF⟩ := hp_b hF
          refine hp_getr X Y (C := RX6) (T := TX6) (N := 14) (ci := 6) (k := 12) rfl inX6_read_X6 (by decide) lkX6_read_f31 e12 dX6_read_33 ?_
          refine lv_iconst (v := 0) X.1 X.2.1 dX6_read_36 (by decide) ?_
          obtain ⟨v13, e14, hF⟩ := hp_b hF
          refine hp_iald X Y e14 dX6_read_37 ?_
          refine lv_bipush (v := 45) X.1 X.2.1 dX6_read_38 (by decide) ?_
          refine lv_icmp_ne (tgt := 47) X.1 X.2.1 dX6_read_40 (by decide) (fun c15 => ?_) (fun c15 => ?_)
          · have hF := hp_ifn (c15) hF
            exact wX6_read_47 X  Y (lv_sub hl [0, 1, 2] rfl) hF
          · have hF := hp_ifp (c15) hF
            refine lv_iconst (v := 1) X.1 X.2.1 dX6_read_43 (by decide) ?_
            refine lv_goto (tgt := 48) X.1 X.2.1 dX6_read_44 (by decide) ?_
            exact wX6_read_48 X  Y (lv_sub hl [0, 1, 2] rfl) hF
      · have hF := hp_ifn (c7) hF
        refine lv_iconst (v := -1) X.1 X.2.1 dX6_read_23 (by decide) ?_
        cases hF
        exact hp_ri X Y rfl rfl dX6_read_24
