/-! WholeNumbers$LongDivision.guessDigit -/
def rmX1_guessDigit : Room := { frames := 1, cells := 0, slots := 0, locals := 21 }
def bX1_guessDigit_185  (x11 : Int64)  (h : hp_H) : Option Int32 :=
  some (Int64.toInt32 x11)
def bX1_guessDigit_166 (k122 : Int64 → Int64 → Int32 → Option Int32) (x5 : Int64) (x7 : Int64) (x9 : Int64) (x11 : Int64) (x13 : Int64) (x15 : Int32)  (h : hp_H) : Option Int32 :=
  (some (x11 - (1 : Int64))).bind fun v1 =>
  (some (x13 + x7)).bind fun v3 =>
  (some (x15 + (1 : Int32))).bind fun v5 =>
  k122 v1 v3 v5
def bX1_guessDigit_122  (x5 : Int64) (x7 : Int64) (x9 : Int64) (h : hp_H) : Nat → Int64 → Int64 → Int32 → Option Int32
  | 0, _, _, _ => none
  | n + 1, x11, x13, x15 =>
  if (2 : Int32) ≤ x15 then (
    bX1_guessDigit_185 x11 h)
  else (
    if (1073741823 : Int64) < x13 then (
      bX1_guessDigit_185 x11 h)
    else (
      if (1073741823 : Int64) < x11 then (
        bX1_guessDigit_166 (bX1_guessDigit_122 x5 x7 x9 h n) x5 x7 x9 x11 x13 x15 h)
      else (
        if ((hp_lshl x13 (30 : Int32)) ||| x5) < (x11 * x9) then (
          bX1_guessDigit_166 (bX1_guessDigit_122 x5 x7 x9 h n) x5 x7 x9 x11 x13 x15 h)
        else (
          bX1_guessDigit_185 x11 h))))
def bX1_guessDigit_58  (x0 : Nat) (x3 : Int64) (t0 : Int64) (h : hp_H) : Option Int32 :=
  (hp_gr h x0 1 2).bind fun v1 =>
  (hp_gr h x0 1 2).bind fun v3 =>
  (hp_gi h v3 2 1).bind fun v5 =>
  (fX2_limb v1 (v5 - (1 : Int32)) h).bind fun v8 =>
  (some (Int32.toInt64 v8)).bind fun v9 =>
  (hp_gr h x0 1 2).bind fun v11 =>
  (hp_gr h x0 1 2).bind fun v13 =>
  (hp_gi h v13 2 1).bind fun v15 =>
  (fX2_limb v11 (v15 - (2 : Int32)) h).bind fun v18 =>
  (some (Int32.toInt64 v18)).bind fun v19 =>
  if v9 = (0 : Int64) then (
    some (0 : Int32))
  else (
    if ¬ v9 = 0 then
    (some (x3 / v9)).bind fun v23 =>
    if ¬ v9 = 0 then
    (some (hp_lrem x3 v9)).bind fun v26 =>
    bX1_guessDigit_122 t0 v9 v19 h hp_n v23 v26 (0 : Int32)
    else none
    else none)
def fX1_guessDigit (x0 : Nat) (x1 : Int32) (h : hp_H) : Option Int32 :=
  if hp_o h x0 1 = true then
  (hp_gr h x0 1 2).bind fun v1 =>
  (hp_gi h v1 2 1).bind fun v3 =>
  (some (x1 + v3)).bind fun v5 =>
  (hp_gr h x0 1 1).bind fun v7 =>
  (hp_gr h v7 2 0).bind fun v9 =>
  (hp_ai h 0 v9 v5).bind fun v11 =>
  (hp_gr h x0 1 1).bind fun v13 =>
  (hp_gr h v13 2 0).bind fun v15 =>
  (hp_ai h 0 v15 (v5 - (1 : Int32))).bind fun v17 =>
  (some ((hp_lshl (Int32.toInt64 v11) (30 : Int32)) ||| (Int32.toInt64 v17))).bind fun v19 =>
  if v5 < (2 : Int32) then (
    bX1_guessDigit_58 x0 v19 (0 : Int64) h)
  else (
    (hp_gr h x0 1 1).bind fun v22 =>
    (hp_gr h v22 2 0).bind fun v24 =>
    (hp_ai h 0 v24 (v5 - (2 : Int32))).bind fun v26 =>
    bX1_guessDigit_58 x0 v19 (Int32.toInt64 v26) h)
  else none
theorem inX1_guessDigit_X1 : ∀ w ∈ wsX10, w ∈ wsX1_guessDigit := by decide +kernel
theorem inX1_guessDigit_X2 : ∀ w ∈ wsX20, w ∈ wsX1_guessDigit := by decide +kernel
theorem lkX1_guessDigit_c80 : Cond.constantLong RX1 80 (1073741823) ∈ wsX1_guessDigit := by decide +kernel
theorem lkX1_guessDigit_f21 : Cond.fieldLink RX1 21 (TX1 2).1 (TX1 2).2.1 (TX1 2).2.2.1 ∈ wsX1_guessDigit := by decide +kernel
theorem lkX1_guessDigit_f36 : Cond.fieldLink RX1 36 (TX2 1).1 (TX2 1).2.1 (TX2 1).2.2.1 ∈ wsX1_guessDigit := by decide +kernel
theorem lkX1_guessDigit_f18 : Cond.fieldLink RX1 18 (TX1 1).1 (TX1 1).2.1 (TX1 1).2.2.1 ∈ wsX1_guessDigit := by decide +kernel
theorem lkX1_guessDigit_f53 : Cond.fieldLink RX1 53 (TX2 0).1 (TX2 0).2.1 (TX2 0).2.2.1 ∈ wsX1_guessDigit := by decide +kernel
theorem ndX1_guessDigit : yX1_guessDigit.cls ≠ "java/lang/invoke/MethodHandle" ∧ yX1_guessDigit.cls ≠ "java/lang/invoke/VarHandle" ∧ (parseMethodDescriptor yX1_guessDigit.desc).map (fun d => d.parameters.length) = some 1 := by decide +kernel
set_option maxRecDepth 100000 in
set_option maxHeartbeats 4000000 in
theorem wX1_guessDigit_185 {p : Program} {l : Launch} {e : Env} {s : State} {m : MethodId} {args : Array Value} {below : List Frame} {meth : Method} {c : Code} {G : hp_G} {h0 : hp_H} {r : Int32} (X : hp_X p s m args meth c cX1_guessDigit 16 RX1 wsX1_guessDigit (some .int) G)  {x11 : Int64}    {H : Heap} {locs : List Loc} {ls : Array Slot} (Y : hp_Y G h0 h0 s H locs) (hl : lv_has ls 16 [(11, .long x11)]) (hF : bX1_guessDigit_185 x11 h0 = some r) : W p l e rmX1_guessDigit s m args below meth c H locs 0 0 (MQ below (va_Qi (fun r' u => r' = r ∧ u = h0) (hp_B G h0) (hp_A h0)) args s 0 0 (hp_A h0)) (F0 m 185 ls []) := by
  unfold bX1_guessDigit_185 at hF
  refine lv_lload X.1 X.2.1 dX1_guessDigit_185 (lv_at hl 0 rfl) ?_
  refine lv_l2i (v := Int64.toInt32 x11) X.1 X.2.1 dX1_guessDigit_187 rfl ?_
  cases hF
  exact hp_ri X Y rfl rfl dX1_guessDigit_188
set_option maxRecDepth 100000 in
set_option maxHeartbeats 4000000 in
theorem wX1_guessDigit_166 {p : Program} {l : Launch} {e : Env} {s : State} {m : MethodId} {args : Array Value} {below : List Frame} {meth : Method} {c : Code} {G : hp_G} {h0 : hp_H} {r : Int32} (X : hp_X p s m args meth c cX1_guessDigit 16 RX1 wsX1_guessDigit (some .int) G) {k122 : Int64 → Int64 → Int32 → Option Int32} {x5 : Int64} {x7 : Int64} {x9 : Int64} {x11 : Int64} {x13 : Int64} {x15 : Int32}  (hk122 : ∀ (y11 : Int64) (y13 : Int64) (y15 : Int32) (H : Heap) (locs : List Loc) (ls : Array Slot), hp_Y G h0 h0 s H locs → lv_has ls 16 [(5, .long x5), (7, .long x7), (9, .long x9), (11, .long y11), (13, .long y13), (15, .int y15)] → k122 y11 y13 y15 = some r → W p l e rmX1_guessDigit s m args below meth c H locs 0 0 (MQ below (va_Qi (fun r' u => r' = r ∧ u = h0) (hp_B G h0) (hp_A h0)) args s 0 0 (hp_A h0)) (F0 m 122 ls []))  {H : Heap} {locs : List Loc} {ls : Array Slot} (Y : hp_Y G h0 h0 s H locs) (hl : lv_has ls 16 [(5, .long x5), (7, .long x7), (9, .long x9), (11, .long x11), (13, .long x13), (15, .int x15)]) (hF : bX1_guessDigit_166 k122 x5 x7 x9 x11 x13 x15 h0 = some r) : W p l e rmX1_guessDigit s m args below meth c H locs 0 0 (MQ below (va_Qi (fun r' u => r' = r ∧ u = h0) (hp_B G h0) (hp_A h0)) args s 0 0 (hp_A h0)) (F0 m 166 ls []) := by
  unfold bX1_guessDigit_166 at hF
  refine lv_lload X.1 X.2.1 dX1_guessDigit_166 (lv_at hl 3 rfl) ?_
  refine lv_lconst (v := 1) X.1 X.2.1 dX1_guessDigit_168 (by decide) ?_
  refine lv_lsub X.1 X.2.1 dX1_guessDigit_169 ?_
  obtain ⟨v1, e2, hF⟩ := hp_b hF
  refine hp_tj (Option.some.inj e2) ?_
  refine lv_lstore (lv' := [(11, .long v1), (5, .long x5), (7, .long x7), (9, .long x9), (13, .long x13), (15, .int x15)]) X.1 X.2.1 dX1_guessDigit_170 hl (by decide) rfl (fun ls hl => ?_)
  refine lv_lload X.1 X.2.1 dX1_guessDigit_172 (lv_at hl 4 rfl) ?_
  refine lv_lload X.1 X.2.1 dX1_guessDigit_174 (lv_at hl 2 rfl) ?_
  refine lv_ladd X.1 X.2.1 dX1_guessDigit_176 ?_
  obtain ⟨v3, e4, hF⟩ := hp_b hF
  refine hp_tj (Option.some.inj e4) ?_
  refine lv_lstore (lv' := [(13, .long v3), (11, .long v1), (5, .long x5), (7, .long x7), (9, .long x9), (15, .int x15)]) X.1 X.2.1 dX1_guessDigit_177 hl (by decide) rfl (fun ls hl => ?_)
  obtain ⟨v5, e6, hF⟩ := hp_b hF
  refine lv_iinc (v := v5) (lv' := [(15, .int v5), (13, .long v3), (11, .long v1), (5, .long x5), (7, .long x7), (9, .long x9)]) X.1 X.2.1 dX1_guessDigit_179 hl (k := 5) rfl (Option.some.inj e6) (by decide) rfl (fun ls hl => ?_)
  refine lv_goto (tgt := 122) X.1 X.2.1 dX1_guessDigit_182 (by decide) ?_
  exact hk122 _ _ _  _ _ _ Y (lv_sub hl [3, 4, 5, 2, 1, 0] rfl) hF
set_option maxRecDepth 100000 in
set_option maxHeartbeats 4000000 in
theorem wX1_guessDigit_122 {p : Program} {l : Launch} {e : Env} {s : State} {m : MethodId} {args : Array Value} {below : List Frame} {meth : Method} {c : Code} {G : hp_G} {h0 : hp_H} {r : Int32} (X : hp_X p s m args meth c cX1_guessDigit 16 RX1 wsX1_guessDigit (some .int) G)  {x5 : Int64} {x7 : Int64} {x9 : Int64}   : ∀ (n : Nat) {x11 : Int64} {x13 : Int64} {x15 : Int32} {H : Heap} {locs : List Loc} {ls : Array Slot} (Y : hp_Y G h0 h0 s H locs) (hl : lv_has ls 16 [(5, .long x5), (7, .long x7), (9, .long x9), (11, .long x11), (13, .long x13), (15, .int x15)]) (hF : bX1_guessDigit_122 x5 x7 x9 h0 n x11 x13 x15 = some r), W p l e rmX1_guessDigit s m args below meth c H locs 0 0 (MQ below (va_Qi (fun r' u => r' = r ∧ u = h0) (hp_B G h0) (hp_A h0)) args s 0 0 (hp_A h0)) (F0 m 122 ls []) := by
  intro n
  induction n with
  | zero =>
    intro x11 x13 x15 H locs ls Y hl hF
    exact absurd (show none = some _ from hF) (by simp)
  | succ n ih =>
    intro x11 x13 x15 H locs ls Y hl hF
    rw [bX1_guessDigit_122] at hF
    refine lv_iload X.1 X.2.1 dX1_guessDigit_122 (lv_at hl 5 rfl) ?_
    refine lv_iconst (v := 2) X.1 X.2.1 dX1_guessDigit_124 (by decide) ?_
    refine lv_icmp_ge (tgt := 185) X.1 X.2.1 dX1_guessDigit_125 (by decide) (fun c1 => ?_) (fun c1 => ?_)
    · have hF := hp_ifp (c1) hF
      exact wX1_guessDigit_185 X  Y (lv_sub hl [3] rfl) hF
    · have hF := hp_ifn (c1) hF
      refine lv_lload X.1 X.2.1 dX1_guessDigit_128 (lv_at hl 4 rfl) ?_
      refine lv_ldc2 (v := 1073741823) X.1 X.2.1 X.2.2.2.1 (X.2.2.2.2.1 _ lkX1_guessDigit_c80) dX1_guessDigit_130 ?_
      refine W.lcmp X.1 X.2.1 dX1_guessDigit_133 ?_
      refine lv_if_gt (tgt := 185) X.1 X.2.1 dX1_guessDigit_134 (by decide) (fun c2 => ?_) (fun c2 => ?_)
      · have hF := hp_ifp ((lg_cmp_gt x13 (1073741823 : Int64)).mp c2) hF
        exact wX1_guessDigit_185 X  Y (lv_sub hl [3] rfl) hF
      · have hF := hp_ifn (fun z => c2 ((lg_cmp_gt x13 (1073741823 : Int64)).mpr z)) hF
        refine lv_lload X.1 X.2.1 dX1_guessDigit_137 (lv_at hl 3 rfl) ?_
        refine lv_ldc2 (v := 1073741823) X.1 X.2.1 X.2.2.2.1 (X.2.2.2.2.1 _ lkX1_guessDigit_c80) dX1_guessDigit_139 ?_
        refine W.lcmp X.1 X.2.1 dX1_guessDigit_142 ?_
        refine lv_if_gt (tgt := 166) X.1 X.2.1 dX1_guessDigit_143 (by decide) (fun c3 => ?_) (fun c3 => ?_)
        · have hF := hp_ifp ((lg_cmp_gt x11 (1073741823 : Int64)).mp c3) hF
          exact wX1_guessDigit_166 X (fun _ _ _ _ _ _ Y hl hF => ih Y hl hF) Y (lv_sub hl [0, 1, 2, 3, 4, 5] rfl) hF
        · have hF := hp_ifn (fun z => c3 ((lg_cmp_gt x11 (1073741823 : Int64)).mpr z)) hF
          refine lv_lload X.1 X.2.1 dX1_guessDigit_146 (lv_at hl 3 rfl) ?_
          refine lv_lload X.1 X.2.1 dX1_guessDigit_148 (lv_at hl 2 rfl) ?_
          refine lv_lmul X.1 X.2.1 dX1_guessDigit_150 ?_
          refine lv_lload X.1 X.2.1 dX1_guessDigit_151 (lv_at hl 4 rfl) ?_
          refine lv_bipush (v := 30) X.1 X.2.1 dX1_guessDigit_153 (by decide) ?_
          refine lv_lshl (v := hp_lshl x13 (30 : Int32)) X.1 X.2.1 dX1_guessDigit_155 rfl ?_
          refine lv_lload X.1 X.2.1 dX1_guessDigit_156 (lv_at hl 0 rfl) ?_
          refine lv_lor X.1 X.2.1 dX1_guessDigit_158 ?_
          refine W.lcmp X.1 X.2.1 dX1_guessDigit_159 ?_
          refine lv_if_gt (tgt := 166) X.1 X.2.1 dX1_guessDigit_160 (by decide) (fun c4 => ?_) (fun c4 => ?_)
          · have hF := hp_ifp ((lg_cmp_gt (x11 * x9) ((hp_lshl x13 (30 : Int32)) ||| x5)).mp c4) hF
            exact wX1_guessDigit_166 X (fun _ _ _ _ _ _ Y hl hF => ih Y hl hF) Y (lv_sub hl [0, 1, 2, 3, 4, 5] rfl) hF
          · have hF := hp_ifn (fun z => c4 ((lg_cmp_gt (x11 * x9) ((hp_lshl x13 (30 : Int32)) ||| x5)).mpr z)) hF
            refine lv_goto (tgt := 185) X.1 X.2.1 dX1_guessDigit_163 (by decide) ?_
            exact wX1_guessDigit_185 X  Y (lv_sub hl [3] rfl) hF
set_option maxRecDepth 100000 in
set_option maxHeartbeats 4000000 in
theorem wX1_guessDigit_58 {p : Program} {l : Launch} {e : Env} {s : State} {m : MethodId} {args : Array Value} {below : List Frame} {meth : Method} {c : Code} {G : hp_G} {h0 : hp_H} {r : Int32} (X : hp_X p s m args meth c cX1_guessDigit 16 RX1 wsX1_guessDigit (some .int) G)  {x0 : Nat} {x3 : Int64}   {t0 : Int64} {H : Heap} {locs : List Loc} {ls : Array Slot} (Y : hp_Y G h0 h0 s H locs) (hl : lv_has ls 16 [(0, .ref x0), (3, .long x3)]) (hF : bX1_guessDigit_58 x0 x3 t0 h0 = some r) : W p l e rmX1_guessDigit s m args below meth c H locs 0 0 (MQ below (va_Qi (fun r' u => r' = r ∧ u = h0) (hp_B G h0) (hp_A h0)) args s 0 0 (hp_A h0)) (F0 m 58 ls [.long t0]) := by
  unfold bX1_guessDigit_58 at hF
  refine lv_lstore (lv' := [(5, .long t0), (0, .ref x0), (3, .long x3)]) X.1 X.2.1 dX1_guessDigit_58 hl (by decide) rfl (fun ls hl => ?_)
  refine lv_aload_n X.1 X.2.1 dX1_guessDigit_60 rfl (lv_at hl 1 rfl) ?_
  obtain ⟨v1, e2, hF⟩ := hp_b hF
  refine hp_getr X Y (C := RX1) (T := TX1) (N := 3) (ci := 1) (k := 2) rfl inX1_guessDigit_X1 (by decide) lkX1_guessDigit_f21 e2 dX1_guessDigit_61 ?_
  refine lv_aload_n X.1 X.2.1 dX1_guessDigit_64 rfl (lv_at hl 1 rfl) ?_
  obtain ⟨v3, e4, hF⟩ := hp_b hF
  refine hp_getr X Y (C := RX1) (T := TX1) (N := 3) (ci := 1) (k := 2) rfl inX1_guessDigit_X1 (by decide) lkX1_guessDigit_f21 e4 dX1_guessDigit_65 ?_
  obtain ⟨v5, e6, hF⟩ := hp_b hF
  refine hp_geti X Y (C := RX2) (T := TX2) (N := 2) (ci := 2) (k := 1) rfl inX1_guessDigit_X2 (by decide) lkX1_guessDigit_f36 e6 dX1_guessDigit_68 ?_
  refine lv_iconst (v := 1) X.1 X.2.1 dX1_guessDigit_71 (by decide) ?_
  refine lv_isub X.1 X.2.1 dX1_guessDigit_72 ?_
  obtain ⟨v8, e7, hF⟩ := hp_b hF
  refine hp_ci Y (hp_runV X Y (ci := 2) (As := [.int (v5 - (1 : Int32))]) (n := 1) (T := TX2) (N := 2) (mX2_limb l G e7) rfl (oX2_limb e7) gX1_guessDigit_X2_limb rfl rfl rfl ndX2_limb ⟨Nat.le_of_ble_eq_true rfl, Nat.le_of_ble_eq_true rfl⟩ rfl hl.1 rfl (Nat.le_of_ble_eq_true rfl) dX1_guessDigit_73 ⟨Nat.zero_le _, Nat.zero_le _⟩) (fun H locs Y => ?_)
  refine lv_i2l (v := Int32.toInt64 v8) X.1 X.2.1 dX1_guessDigit_76 rfl ?_
  obtain ⟨v9, e10, hF⟩ := hp_b hF
  refine hp_tj (Option.some.inj e10) ?_
  refine lv_lstore (lv' := [(7, .long v9), (5, .long t0), (0, .ref x0), (3, .long x3)]) X.1 X.2.1 dX1_guessDigit_77 hl (by decide) rfl (fun ls hl => ?_)
  refine lv_aload_n X.1 X.2.1 dX1_guessDigit_79 rfl (lv_at hl 2 rfl) ?_
  obtain ⟨v11, e12, hF⟩ := hp_b hF
  refine hp_getr X Y (C := RX1) (T := TX1) (N := 3) (ci := 1) (k := 2) rfl inX1_guessDigit_X1 (by decide) lkX1_guessDigit_f21 e12 dX1_guessDigit_80 ?_
  refine lv_aload_n X.1 X.2.1 dX1_guessDigit_83 rfl (lv_at hl 2 rfl) ?_
  obtain ⟨v13, e14, hF⟩ := hp_b hF
  refine hp_getr X Y (C := RX1) (T := TX1) (N := 3) (ci := 1) (k := 2) rfl inX1_guessDigit_X1 (by decide) lkX1_guessDigit_f21 e14 dX1_guessDigit_84 ?_
  obtain ⟨v15, e16, hF⟩ := hp_b hF
  refine hp_geti X Y (C := RX2) (T := TX2) (N := 2) (ci := 2) (k := 1) rfl inX1_guessDigit_X2 (by decide) lkX1_guessDigit_f36 e16 dX1_guessDigit_87 ?_
  refine lv_iconst (v := 2) X.1 X.2.1 dX1_guessDigit_90 (by decide) ?_
  refine lv_isub X.1 X.2.1 dX1_guessDigit_91 ?_
  obtain ⟨v18, e17, hF⟩ := hp_b hF
  refine hp_ci Y (hp_runV X Y (ci := 2) (As := [.int (v15 - (2 : Int32))]) (n := 1) (T := TX2) (N := 2) (mX2_limb l G e17) rfl (oX2_limb e17) gX1_guessDigit_X2_limb rfl rfl rfl ndX2_limb ⟨Nat.le_of_ble_eq_true rfl, Nat.le_of_ble_eq_true rfl⟩ rfl hl.1 rfl (Nat.le_of_ble_eq_true rfl) dX1_guessDigit_92 ⟨Nat.zero_le _, Nat.zero_le _⟩) (fun H locs Y => ?_)
  refine lv_i2l (v := Int32.toInt64 v18) X.1 X.2.1 dX1_guessDigit_95 rfl ?_
  obtain ⟨v19, e20, hF⟩ := hp_b hF
  refine hp_tj (Option.some.inj e20) ?_
  refine lv_lstore (lv' := [(9, .long v19), (7, .long v9), (5, .long t0), (0, .ref x0), (3, .long x3)]) X.1 X.2.1 dX1_guessDigit_96 hl (by decide) rfl (fun ls hl => ?_)
  refine lv_lload X.1 X.2.1 dX1_guessDigit_98 (lv_at hl 1 rfl) ?_
  refine lv_lconst (v := 0) X.1 X.2.1 dX1_guessDigit_100 (by decide) ?_
  refine W.lcmp X.1 X.2.1 dX1_guessDigit_101 ?_
  refine lv_if_ne (tgt := 107) X.1 X.2.1 dX1_guessDigit_102 (by decide) (fun c21 => ?_) (fun c21 => ?_)
  · have hF := hp_ifn (fun z => c21 ((lg_cmp_eq v9 (0 : Int64)).mpr z)) hF
    refine lv_lload_n X.1 X.2.1 dX1_guessDigit_107 rfl (lv_at hl 4 rfl) ?_
    refine lv_lload X.1 X.2.1 dX1_guessDigit_108 (lv_at hl 1 rfl) ?_
    obtain ⟨e22, hF⟩ := hp_ift hF
    refine lv_ldiv X.1 X.2.1 dX1_guessDigit_110 e22 ?_
    obtain ⟨v23, e24, hF⟩ := hp_b hF
    refine hp_tj (Option.some.inj e24) ?_
    refine lv_lstore (lv' := [(11, .long v23), (9, .long v19), (7, .long v9), (5, .long t0), (0, .ref x0), (3, .long x3)]) X.1 X.2.1 dX1_guessDigit_111 hl (by decide) rfl (fun ls hl => ?_)
    refine lv_lload_n X.1 X.2.1 dX1_guessDigit_113 rfl (lv_at hl 5 rfl) ?_
    refine lv_lload X.1 X.2.1 dX1_guessDigit_114 (lv_at hl 2 rfl) ?_
    obtain ⟨e25, hF⟩ := hp_ift hF
    refine lv_lrem X.1 X.2.1 dX1_guessDigit_116 e25 ?_
    obtain ⟨v26, e27, hF⟩ := hp_b hF
    refine hp_tj (Option.some.inj e27) ?_
    refine lv_lstore (lv' := [(13, .long v26), (11, .long v23), (9, .long v19), (7, .long v9), (5, .long t0), (0, .ref x0), (3, .long x3)]) X.1 X.2.1 dX1_guessDigit_117 hl (by decide) rfl (fun ls hl => ?_)
    refine lv_iconst (v := 0) X.1 X.2.1 dX1_guessDigit_119 (by decide) ?_
    refine lv_istore (lv' := [(15, .int (0 : Int32)), (13, .long v26), (11, .long v23), (9, .long v19), (7, .long v9), (5, .long t0), (0, .ref x0), (3, .long x3)]) X.1 X.2.1 dX1_guessDigit_120 hl (by decide) rfl (fun ls hl => ?_)
    exact wX1_guessDigit_122 X  hp_n Y (lv_sub hl [5, 4, 3, 2, 1, 0] rfl) hF
  · have hF := hp_ifp ((lg_cmp_eq v9 (0 : Int64)).mp c21) hF
    refine lv_iconst (v := 0) X.1 X.2.1 dX1_guessDigit_105 (by decide) ?_
    cases hF
    exact hp_ri X Y rfl rfl dX1_guessDigit_106
theorem oX1_guessDigit {x0 : Nat} {x1 : Int32} {h : hp_H} {r : Int32} (hF : fX1_guessDigit x0 x1 h = some r) : hp_o h x0 1 = true := by
  unfold fX1_guessDigit at hF
  exact (hp_ift hF).1
set_option maxRecDepth 100000 in
set_option maxHeartbeats 4000000 in
theorem mX1_guessDigit (l : Launch) (G : hp_G) {x0 : Nat} {x1 : Int32} {h : hp_H} {r : Int32} (hF : fX1_guessDigit x0 x1 h = some r) : Met l yX1_guessDigit wsX1_guessDigit rmX1_guessDigit (va_Pc [.ref x0, .int x1] (hp_S G h)) (va_Qi (fun r' u => r' = r ∧ u = h) (hp_B G h) (hp_A h)) 0 0 (hp_A h) := by
  refine hp_met (cc := cX1_guessDigit) (nL := 16) (ret := (some .int)) (by decide) rfl ?_
  intro p e s m below meth c X Y
  have hl := lv_entry ([.ref x0, .int x1]) (n := 16) (Nat.le_of_ble_eq_true rfl)
  rw [lg_entry_eq]
  generalize (lg_sl ([.ref x0, .int x1]) ++ List.replicate (16 - (lg_sl ([.ref x0, .int x1])).length) Slot.unset).toArray = ls at hl ⊢
  have hl : lv_has ls 16 [(0, .ref x0), (1, .int x1)] := hl
  unfold fX1_guessDigit at hF
  obtain ⟨ho, hF⟩ := hp_ift hF
  refine lv_iload_n X.1 X.2.1 dX1_guessDigit_0 rfl (lv_at hl 1 rfl) ?_
  refine lv_aload_n X.1 X.2.1 dX1_guessDigit_1 rfl (lv_at hl 0 rfl) ?_
  obtain ⟨v1, e2, hF⟩ := hp_b hF
  refine hp_getr X Y (C := RX1) (T := TX1) (N := 3) (ci := 1) (k := 2) rfl inX1_guessDigit_X1 (by decide) lkX1_guessDigit_f21 e2 dX1_guessDigit_2 ?_
  obtain ⟨v3, e4, hF⟩ := hp_b hF
  refine hp_geti X Y (C := RX2) (T := TX2) (N := 2) (ci := 2) (k := 1) rfl inX1_guessDigit_X2 (by decide) lkX1_guessDigit_f36 e4 dX1_guessDigit_5 ?_
  refine lv_iadd X.1 X.2.1 dX1_guessDigit_8 ?_
  obtain ⟨v5, e6, hF⟩ := hp_b hF
  refine hp_ti (Option.some.inj e6) ?_
  refine lv_istore_n (lv' := [(2, .int v5), (0, .ref x0), (1, .int x1)]) X.1 X.2.1 dX1_guessDigit_9 rfl hl (by decide) rfl (fun ls hl => ?_)
  refine lv_aload_n X.1 X.2.1 dX1_guessDigit_10 rfl (lv_at hl 1 rfl) ?_
  obtain ⟨v7, e8, hF⟩ := hp_b hF
  refine hp_getr X Y (C := RX1) (T := TX1) (N := 3) (ci := 1) (k := 1) rfl inX1_guessDigit_X1 (by decide) lkX1_guessDigit_f18 e8 dX1_guessDigit_11 ?_
  obtain ⟨v9, e10, hF⟩ := hp_b hF
  refine hp_getr X Y (C := RX2) (T := TX2) (N := 2) (ci := 2) (k := 0) rfl inX1_guessDigit_X2 (by decide) lkX1_guessDigit_f53 e10 dX1_guessDigit_14 ?_
  refine lv_iload_n X.1 X.2.1 dX1_guessDigit_17 rfl (lv_at hl 0 rfl) ?_
  obtain ⟨v11, e12, hF⟩ := hp_b hF
  refine hp_iald X Y e12 dX1_guessDigit_18 ?_
  refine lv_i2l (v := Int32.toInt64 v11) X.1 X.2.1 dX1_guessDigit_19 rfl ?_
  refine lv_bipush (v := 30) X.1 X.2.1 dX1_guessDigit_20 (by decide) ?_
  refine lv_lshl (v := hp_lshl (Int32.toInt64 v11) (30 : Int32)) X.1 X.2.1 dX1_guessDigit_22 rfl ?_
  refine lv_aload_n X.1 X.2.1 dX1_guessDigit_23 rfl (lv_at hl 1 rfl) ?_
  obtain ⟨v13, e14, hF⟩ := hp_b hF
  refine hp_getr X Y (C := RX1) (T := TX1) (N := 3) (ci := 1) (k := 1) rfl inX1_guessDigit_X1 (by decide) lkX1_guessDigit_f18 e14 dX1_guessDigit_24 ?_
  obtain ⟨v15, e16, hF⟩ := hp_b hF
  refine hp_getr X Y (C := RX2) (T := TX2) (N := 2) (ci := 2) (k := 0) rfl inX1_guessDigit_X2 (by decide) lkX1_guessDigit_f53 e16 dX1_guessDigit_27 ?_
  refine lv_iload_n X.1 X.2.1 dX1_guessDigit_30 rfl (lv_at hl 0 rfl) ?_
  refine lv_iconst (v := 1) X.1 X.2.1 dX1_guessDigit_31 (by decide) ?_
  refine lv_isub X.1 X.2.1 dX1_guessDigit_32 ?_
  obtain ⟨v17, e18, hF⟩ := hp_b hF
  refine hp_iald X Y e18 dX1_guessDigit_33 ?_
  refine lv_i2l (v := Int32.toInt64 v17) X.1 X.2.1 dX1_guessDigit_34 rfl ?_
  refine lv_lor X.1 X.2.1 dX1_guessDigit_35 ?_
  obtain ⟨v19, e20, hF⟩ := hp_b hF
  refine hp_tj (Option.some.inj e20) ?_
  refine lv_lstore_n (lv' := [(3, .long v19), (2, .int v5), (0, .ref x0), (1, .int x1)]) X.1 X.2.1 dX1_guessDigit_36 rfl hl (by decide) rfl (fun ls hl => ?_)
  refine lv_iload_n X.1 X.2.1 dX1_guessDigit_37 rfl (lv_at hl 1 rfl) ?_
  refine lv_iconst (v := 2) X.1 X.2.1 dX1_guessDigit_38 (by decide) ?_
  refine lv_icmp_lt (tgt := 57) X.1 X.2.1 dX1_guessDigit_39 (by decide) (fun c21 => ?_) (fun c21 => ?_)
  · have hF := hp_ifp (c21) hF
    refine lv_lconst (v := 0) X.1 X.2.1 dX1_guessDigit_57 (by decide) ?_
    exact wX1_guessDigit_58 X  Y (lv_sub hl [2, 0] rfl) hF
  · have hF := hp_ifn (c21) hF
    refine lv_aload_n X.1 X.2.1 dX1_guessDigit_42 rfl (lv_at hl 2 rfl) ?_
    obtain ⟨v22, e23, hF⟩ := hp_b hF
    refine hp_getr X Y (C := RX1) (T := TX1) (N := 3) (ci := 1) (k := 1) rfl inX1_guessDigit_X1 (by decide) lkX1_guessDigit_f18 e23 dX1_guessDigit_43 ?_
    obtain ⟨v24, e25, hF⟩ := hp_b hF
    refine hp_getr X Y (C := RX2) (T := TX2) (N := 2) (ci := 2) (k := 0) rfl inX1_guessDigit_X2 (by decide) lkX1_guessDigit_f53 e25 dX1_guessDigit_46 ?_
    refine lv_iload_n X.1 X.2.1 dX1_guessDigit_49 rfl (lv_at hl 1 rfl) ?_
    refine lv_iconst (v := 2) X.1 X.2.1 dX1_guessDigit_50 (by decide) ?_
    refine lv_isub X.1 X.2.1 dX1_guessDigit_51 ?_
    obtain ⟨v26, e27, hF⟩ := hp_b hF
    refine hp_iald X Y e27 dX1_guessDigit_52 ?_
    refine lv_i2l (v := Int32.toInt64 v26) X.1 X.2.1 dX1_guessDigit_53 rfl ?_
    refine lv_goto (tgt := 58) X.1 X.2.1 dX1_guessDigit_54 (by decide) ?_
    exact wX1_guessDigit_58 X  Y (lv_sub hl [2, 0] rfl) hF

/-! WholeNumbers$LongDivision.subtractAt -/
def rmX1_subtractAt : Room := { frames := 0, cells := 0, slots := 0, locals := 0 }
def bX1_subtractAt_15  (x0 : Nat) (x1 : Int32) (x2 : Int64) (x4 : Int32) : Nat → Int64 → Int32 → hp_H → Option (Int32 × hp_H)
  | 0, _, _, _ => none
  | n + 1, x5, x7, h =>
  if x4 ≤ x7 then (
    (hp_gr h x0 1 1).bind fun v2 =>
    (hp_gr h v2 2 0).bind fun v4 =>
    (hp_ai h 0 v4 (x1 + x4)).bind fun v6 =>
    (some ((Int32.toInt64 v6) + x5)).bind fun v8 =>
    (hp_gr h x0 1 1).bind fun v10 =>
    (hp_gr h v10 2 0).bind fun v12 =>
    (hp_si h 0 v12 (x1 + x4) ((Int64.toInt32 v8) &&& (1073741823 : Int32))).bind fun h14 =>
    if (0 : Int64) ≤ v8 then (
      some ((0 : Int32), h14))
    else (
      some ((1 : Int32), h14)))
  else (
    (hp_gr h x0 1 1).bind fun v17 =>
    (hp_gr h v17 2 0).bind fun v19 =>
    (hp_ai h 0 v19 (x1 + x7)).bind fun v21 =>
    (hp_gr h x0 1 2).bind fun v23 =>
    (hp_gr h v23 2 0).bind fun v25 =>
    (hp_ai h 0 v25 x7).bind fun v27 =>
    (some (((Int32.toInt64 v21) - (x2 * (Int32.toInt64 v27))) + x5)).bind fun v29 =>
    (hp_gr h x0 1 1).bind fun v31 =>
    (hp_gr h v31 2 0).bind fun v33 =>
    (hp_si h 0 v33 (x1 + x7) ((Int64.toInt32 v29) &&& (1073741823 : Int32))).bind fun h35 =>
    (some (hp_lshr v29 (30 : Int32))).bind fun v37 =>
    (some (x7 + (1 : Int32))).bind fun v39 =>
    bX1_subtractAt_15 x0 x1 x2 x4 n v37 v39 h35)
def fX1_subtractAt (x0 : Nat) (x1 : Int32) (x2 : Int64) (h : hp_H) : Option (Int32 × hp_H) :=
  if hp_o h x0 1 = true then
  (hp_gr h x0 1 2).bind fun v1 =>
  (hp_gi h v1 2 1).bind fun v3 =>
  bX1_subtractAt_15 x0 x1 x2 v3 hp_n (0 : Int64) (0 : Int32) h
  else none
theorem inX1_subtractAt_X1 : ∀ w ∈ wsX10, w ∈ wsX1_subtractAt := by decide +kernel
theorem inX1_subtractAt_X2 : ∀ w ∈ wsX20, w ∈ wsX1_subtractAt := by decide +kernel
theorem lkX1_subtractAt_f18 : Cond.fieldLink RX1 18 (TX1 1).1 (TX1 1).2.1 (TX1 1).2.2.1 ∈ wsX1_subtractAt := by decide +kernel
theorem lkX1_subtractAt_f53 : Cond.fieldLink RX1 53 (TX2 0).1 (TX2 0).2.1 (TX2 0).2.2.1 ∈ wsX1_subtractAt := by decide +kernel
theorem lkX1_subtractAt_c82 : Cond.constant RX1 82 (1073741823) ∈ wsX1_subtractAt := by decide +kernel
theorem lkX1_subtractAt_f21 : Cond.fieldLink RX1 21 (TX1 2).1 (TX1 2).2.1 (TX1 2).2.2.1 ∈ wsX1_subtractAt := by decide +kernel
theorem lkX1_subtractAt_f36 : Cond.fieldLink RX1 36 (TX2 1).1 (TX2 1).2.1 (TX2 1).2.2.1 ∈ wsX1_subtractAt := by decide +kernel
theorem ndX1_subtractAt : yX1_subtractAt.cls ≠ "java/lang/invoke/MethodHandle" ∧ yX1_subtractAt.cls ≠ "java/lang/invoke/VarHandle" ∧ (parseMethodDescriptor yX1_subtractAt.desc).map (fun d => d.parameters.length) = some 2 := by decide +kernel
set_option maxRecDepth 100000 in
set_option maxHeartbeats 4000000 in
theorem wX1_subtractAt_15 {p : Program} {l : Launch} {e : Env} {s : State} {m : MethodId} {args : Array Value} {below : List Frame} {meth : Method} {c : Code} {G : hp_G} {h0 h' : hp_H} {r : Int32} (X : hp_X p s m args meth c cX1_subtractAt 10 RX1 wsX1_subtractAt (some .boolean) G)  {x0 : Nat} {x1 : Int32} {x2 : Int64} {x4 : Int32}   : ∀ (n : Nat) {x5 : Int64} {x7 : Int32} {h : hp_H} {H : Heap} {locs : List Loc} {ls : Array Slot} (Y : hp_Y G h h0 s H locs) (hl : lv_has ls 10 [(0, .ref x0), (1, .int x1), (2, .long x2), (4, .int x4), (5, .long x5), (7, .int x7)]) (hF : bX1_subtractAt_15 x0 x1 x2 x4 n x5 x7 h = some (r, h')), W p l e rmX1_subtractAt s m args below meth c H locs 0 0 (MQ below (va_Qi (fun r' u => r' = r ∧ u = h') (hp_B G h0) (hp_A h0)) args s 0 0 (hp_A h0)) (F0 m 15 ls []) := by
  intro n
  induction n with
  | zero =>
    intro x5 x7 h H locs ls Y hl hF
    exact absurd (show none = some _ from hF) (by simp)
  | succ n ih =>
    intro x5 x7 h H locs ls Y hl hF
    rw [bX1_subtractAt_15] at hF
    refine lv_iload X.1 X.2.1 dX1_subtractAt_15 (lv_at hl 5 rfl) ?_
    refine lv_iload X.1 X.2.1 dX1_subtractAt_17 (lv_at hl 3 rfl) ?_
    refine lv_icmp_ge (tgt := 85) X.1 X.2.1 dX1_subtractAt_19 (by decide) (fun c1 => ?_) (fun c1 => ?_)
    · have hF := hp_ifp (c1) hF
      refine lv_aload_n X.1 X.2.1 dX1_subtractAt_85 rfl (lv_at hl 0 rfl) ?_
      obtain ⟨v2, e3, hF⟩ := hp_b hF
      refine hp_getr X Y (C := RX1) (T := TX1) (N := 3) (ci := 1) (k := 1) rfl inX1_subtractAt_X1 (by decide) lkX1_subtractAt_f18 e3 dX1_subtractAt_86 ?_
      obtain ⟨v4, e5, hF⟩ := hp_b hF
      refine hp_getr X Y (C := RX2) (T := TX2) (N := 2) (ci := 2) (k := 0) rfl inX1_subtractAt_X2 (by decide) lkX1_subtractAt_f53 e5 dX1_subtractAt_89 ?_
      refine lv_iload_n X.1 X.2.1 dX1_subtractAt_92 rfl (lv_at hl 1 rfl) ?_
      refine lv_iload X.1 X.2.1 dX1_subtractAt_93 (lv_at hl 3 rfl) ?_
      refine lv_iadd X.1 X.2.1 dX1_subtractAt_95 ?_
      obtain ⟨v6, e7, hF⟩ := hp_b hF
      refine hp_iald X Y e7 dX1_subtractAt_96 ?_
      refine lv_i2l (v := Int32.toInt64 v6) X.1 X.2.1 dX1_subtractAt_97 rfl ?_
      refine lv_lload X.1 X.2.1 dX1_subtractAt_98 (lv_at hl 4 rfl) ?_
      refine lv_ladd X.1 X.2.1 dX1_subtractAt_100 ?_
      obtain ⟨v8, e9, hF⟩ := hp_b hF
      refine hp_tj (Option.some.inj e9) ?_
      refine lv_lstore (lv' := [(7, .long v8), (0, .ref x0), (1, .int x1), (2, .long x2), (4, .int x4), (5, .long x5)]) X.1 X.2.1 dX1_subtractAt_101 hl (by decide) rfl (fun ls hl => ?_)
      refine lv_aload_n X.1 X.2.1 dX1_subtractAt_103 rfl (lv_at hl 1 rfl) ?_
      obtain ⟨v10, e11, hF⟩ := hp_b hF
      refine hp_getr X Y (C := RX1) (T := TX1) (N := 3) (ci := 1) (k := 1) rfl inX1_subtractAt_X1 (by decide) lkX1_subtractAt_f18 e11 dX1_subtractAt_104 ?_
      obtain ⟨v12, e13, hF⟩ := hp_b hF
      refine hp_getr X Y (C := RX2) (T := TX2) (N := 2) (ci := 2) (k := 0) rfl inX1_subtractAt_X2 (by decide) lkX1_subtractAt_f53 e13 dX1_subtractAt_107 ?_
      refine lv_iload_n X.1 X.2.1 dX1_subtractAt_110 rfl (lv_at hl 2 rfl) ?_
      refine lv_iload X.1 X.2.1 dX1_subtractAt_111 (lv_at hl 4 rfl) ?_
      refine lv_iadd X.1 X.2.1 dX1_subtractAt_113 ?_
      refine lv_lload X.1 X.2.1 dX1_subtractAt_114 (lv_at hl 0 rfl) ?_
      refine lv_l2i (v := Int64.toInt32 v8) X.1 X.2.1 dX1_subtractAt_116 rfl ?_
      refine lv_ldc (v := 1073741823) X.1 X.2.1 X.2.2.2.1 (X.2.2.2.2.1 _ lkX1_subtractAt_c82) dX1_subtractAt_117 ?_
      refine lv_iand X.1 X.2.1 dX1_subtractAt_119 ?_
      obtain ⟨h14, e15, hF⟩ := hp_b hF
      refine hp_iast X Y e15 dX1_subtractAt_120 (fun H locs Y => ?_)
      refine lv_lload X.1 X.2.1 dX1_subtractAt_121 (lv_at hl 0 rfl) ?_
      refine lv_lconst (v := 0) X.1 X.2.1 dX1_subtractAt_123 (by decide) ?_
      refine W.lcmp X.1 X.2.1 dX1_subtractAt_124 ?_
      refine lv_if_ge (tgt := 132) X.1 X.2.1 dX1_subtractAt_125 (by decide) (fun c16 => ?_) (fun c16 => ?_)
      · have hF := hp_ifp ((lg_cmp_ge v8 (0 : Int64)).mp c16) hF
        refine lv_iconst (v := 0) X.1 X.2.1 dX1_subtractAt_132 (by decide) ?_
        cases hF
        exact hp_ri X Y rfl rfl dX1_subtractAt_133
      · have hF := hp_ifn (fun z => c16 ((lg_cmp_ge v8 (0 : Int64)).mpr z)) hF
        refine lv_iconst (v := 1) X.1 X.2.1 dX1_subtractAt_128 (by decide) ?_
        refine lv_goto (tgt := 133) X.1 X.2.1 dX1_subtractAt_129 (by decide) ?_
        cases hF
        exact hp_ri X Y rfl rfl dX1_subtractAt_133
    · have hF := hp_ifn (c1) hF
      refine lv_aload_n X.1 X.2.1 dX1_subtractAt_22 rfl (lv_at hl 0 rfl) ?_
      obtain ⟨v17, e18, hF⟩ := hp_b hF
      refine hp_getr X Y (C := RX1) (T := TX1) (N := 3) (ci := 1) (k := 1) rfl inX1_subtractAt_X1 (by decide) lkX1_subtractAt_f18 e18 dX1_subtractAt_23 ?_
      obtain ⟨v19, e20, hF⟩ := hp_b hF
      refine hp_getr X Y (C := RX2) (T := TX2) (N := 2) (ci := 2) (k := 0) rfl inX1_subtractAt_X2 (by decide) lkX1_subtractAt_f53 e20 dX1_subtractAt_26 ?_
      refine lv_iload_n X.1 X.2.1 dX1_subtractAt_29 rfl (lv_at hl 1 rfl) ?_
      refine lv_iload X.1 X.2.1 dX1_subtractAt_30 (lv_at hl 5 rfl) ?_
      refine lv_iadd X.1 X.2.1 dX1_subtractAt_32 ?_
      obtain ⟨v21, e22, hF⟩ := hp_b hF
      refine hp_iald X Y e22 dX1_subtractAt_33 ?_
      refine lv_i2l (v := Int32.toInt64 v21) X.1 X.2.1 dX1_subtractAt_34 rfl ?_
      refine lv_lload_n X.1 X.2.1 dX1_subtractAt_35 rfl (lv_at hl 2 rfl) ?_
      refine lv_aload_n X.1 X.2.1 dX1_subtractAt_36 rfl (lv_at hl 0 rfl) ?_
      obtain ⟨v23, e24, hF⟩ := hp_b hF
      refine hp_getr X Y (C := RX1) (T := TX1) (N := 3) (ci := 1) (k := 2) rfl inX1_subtractAt_X1 (by decide) lkX1_subtractAt_f21 e24 dX1_subtractAt_37 ?_
      obtain ⟨v25, e26, hF⟩ := hp_b hF
      refine hp_getr X Y (C := RX2) (T := TX2) (N := 2) (ci := 2) (k := 0) rfl inX1_subtractAt_X2 (by decide) lkX1_subtractAt_f53 e26 dX1_subtractAt_40 ?_
      refine lv_iload X.1 X.2.1 dX1_subtractAt_43 (lv_at hl 5 rfl) ?_
      obtain ⟨v27, e28, hF⟩ := hp_b hF
      refine hp_iald X Y e28 dX1_subtractAt_45 ?_
      refine lv_i2l (v := Int32.toInt64 v27) X.1 X.2.1 dX1_subtractAt_46 rfl ?_
      refine lv_lmul X.1 X.2.1 dX1_subtractAt_47 ?_
      refine lv_lsub X.1 X.2.1 dX1_subtractAt_48 ?_
      refine lv_lload X.1 X.2.1 dX1_subtractAt_49 (lv_at hl 4 rfl) ?_
      refine lv_ladd X.1 X.2.1 dX1_subtractAt_51 ?_
      obtain ⟨v29, e30, hF⟩ := hp_b hF
      refine hp_tj (Option.some.inj e30) ?_
      refine lv_lstore (lv' := [(8, .long v29), (0, .ref x0), (1, .int x1), (2, .long x2), (4, .int x4), (5, .long x5), (7, .int x7)]) X.1 X.2.1 dX1_subtractAt_52 hl (by decide) rfl (fun ls hl => ?_)
      refine lv_aload_n X.1 X.2.1 dX1_subtractAt_54 rfl (lv_at hl 1 rfl) ?_
      obtain ⟨v31, e32, hF⟩ := hp_b hF
      refine hp_getr X Y (C := RX1) (T := TX1) (N := 3) (ci := 1) (k := 1) rfl inX1_subtractAt_X1 (by decide) lkX1_subtractAt_f18 e32 dX1_subtractAt_55 ?_
      obtain ⟨v33, e34, hF⟩ := hp_b hF
      refine hp_getr X Y (C := RX2) (T := TX2) (N := 2) (ci := 2) (k := 0) rfl inX1_subtractAt_X2 (by decide) lkX1_subtractAt_f53 e34 dX1_subtractAt_58 ?_
      refine lv_iload_n X.1 X.2.1 dX1_subtractAt_61 rfl (lv_at hl 2 rfl) ?_
      refine lv_iload X.1 X.2.1 dX1_subtractAt_62 (lv_at hl 6 rfl) ?_
      refine lv_iadd X.1 X.2.1 dX1_subtractAt_64 ?_
      refine lv_lload X.1 X.2.1 dX1_subtractAt_65 (lv_at hl 0 rfl) ?_
      refine lv_l2i (v := Int64.toInt32 v29) X.1 X.2.1 dX1_subtractAt_67 rfl ?_
      refine lv_ldc (v := 1073741823) X.1 X.2.1 X.2.2.2.1 (X.2.2.2.2.1 _ lkX1_subtractAt_c82) dX1_subtractAt_68 ?_
      refine lv_iand X.1 X.2.1 dX1_subtractAt_70 ?_
      obtain ⟨h35, e36, hF⟩ := hp_b hF
      refine hp_iast X Y e36 dX1_subtractAt_71 (fun H locs Y => ?_)
      refine lv_lload X.1 X.2.1 dX1_subtractAt_72 (lv_at hl 0 rfl) ?_
      refine lv_bipush (v := 30) X.1 X.2.1 dX1_subtractAt_74 (by decide) ?_
      refine lv_lshr (v := hp_lshr v29 (30 : Int32)) X.1 X.2.1 dX1_subtractAt_76 rfl ?_
      obtain ⟨v37, e38, hF⟩ := hp_b hF
      refine hp_tj (Option.some.inj e38) ?_
      refine lv_lstore (lv' := [(5, .long v37), (8, .long v29), (0, .ref x0), (1, .int x1), (2, .long x2), (4, .int x4), (7, .int x7)]) X.1 X.2.1 dX1_subtractAt_77 hl (by decide) rfl (fun ls hl => ?_)
      obtain ⟨v39, e40, hF⟩ := hp_b hF
      refine lv_iinc (v := v39) (lv' := [(7, .int v39), (5, .long v37), (8, .long v29), (0, .ref x0), (1, .int x1), (2, .long x2), (4, .int x4)]) X.1 X.2.1 dX1_subtractAt_79 hl (k := 6) rfl (Option.some.inj e40) (by decide) rfl (fun ls hl => ?_)
      refine lv_goto (tgt := 15) X.1 X.2.1 dX1_subtractAt_82 (by decide) ?_
      exact ih Y (lv_sub hl [3, 4, 5, 6, 1, 0] rfl) hF
theorem oX1_subtractAt {x0 : Nat} {x1 : Int32} {x2 : Int64} {h h' : hp_H} {r : Int32} (hF : fX1_subtractAt x0 x1 x2 h = some (r, h')) : hp_o h x0 1 = true := by
  unfold fX1_subtractAt at hF
  exact (hp_ift hF).1
set_option maxRecDepth 100000 in
set_option maxHeartbeats 4000000 in
theorem mX1_subtractAt (l : Launch) (G : hp_G) {x0 : Nat} {x1 : Int32} {x2 : Int64} {h h' : hp_H} {r : Int32} (hF : fX1_subtractAt x0 x1 x2 h = some (r, h')) : Met l yX1_subtractAt wsX1_subtractAt rmX1_subtractAt (va_Pc [.ref x0, .int x1, .long x2] (hp_S G h)) (va_Qi (fun r' u => r' = r ∧ u = h') (hp_B G h) (hp_A h)) 0 0 (hp_A h) := by
  refine hp_met (cc := cX1_subtractAt) (nL := 10) (ret := (some .boolean)) (by decide) rfl ?_
  intro p e s m below meth c X Y
  have hl := lv_entry ([.ref x0, .int x1, .long x2]) (n := 10) (Nat.le_of_ble_eq_true rfl)
  rw [lg_entry_eq]
  generalize (lg_sl ([.ref x0, .int x1, .long x2]) ++ List.replicate (10 - (lg_sl ([.ref x0, .int x1, .long x2])).length) Slot.unset).toArray = ls at hl ⊢
  have hl : lv_has ls 10 [(0, .ref x0), (1, .int x1), (2, .long x2)] := hl
  unfold fX1_subtractAt at hF
  obtain ⟨ho, hF⟩ := hp_ift hF
  refine lv_aload_n X.1 X.2.1 dX1_subtractAt_0 rfl (lv_at hl 0 rfl) ?_
  obtain ⟨v1, e2, hF⟩ := hp_b hF
  refine hp_getr X Y (C := RX1) (T := TX1) (N := 3) (ci := 1) (k := 2) rfl inX1_subtractAt_X1 (by decide) lkX1_subtractAt_f21 e2 dX1_subtractAt_1 ?_
  obtain ⟨v3, e4, hF⟩ := hp_b hF
  refine hp_geti X Y (C := RX2) (T := TX2) (N := 2) (ci := 2) (k := 1) rfl inX1_subtractAt_X2 (by decide) lkX1_subtractAt_f36 e4 dX1_subtractAt_4 ?_
  refine lv_istore (lv' := [(4, .int v3), (0, .ref x0), (1, .int x1), (2, .long x2)]) X.1 X.2.1 dX1_subtractAt_7 hl (by decide) rfl (fun ls hl => ?_)
  refine lv_lconst (v := 0) X.1 X.2.1 dX1_subtractAt_9 (by decide) ?_
  refine lv_lstore (lv' := [(5, .long (0 : Int64)), (4, .int v3), (0, .ref x0), (1, .int x1), (2, .long x2)]) X.1 X.2.1 dX1_subtractAt_10 hl (by decide) rfl (fun ls hl => ?_)
  refine lv_iconst (v := 0) X.1 X.2.1 dX1_subtractAt_12 (by decide) ?_
  refine lv_istore (lv' := [(7, .int (0 : Int32)), (5, .long (0 : Int64)), (4, .int v3), (0, .ref x0), (1, .int x1), (2, .long x2)]) X.1 X.2.1 dX1_subtractAt_13 hl (by decide) rfl (fun ls hl => ?_)
  exact wX1_subtractAt_15 X  hp_n Y (lv_sub hl [3, 4, 5, 2, 1, 0] rfl) hF

/-! WholeNumbers$LongDivision.addBackAt -/
def rmX1_addBackAt : Room := { frames := 0, cells := 0, slots := 0, locals := 0 }
def bX1_addBackAt_13  (x0 : Nat) (x1 : Int32) (x2 : Int32) : Nat → Int32 → Int32 → hp_H → Option hp_H
  | 0, _, _, _ => none
  | n + 1, x3, x4, h =>
  if x2 ≤ x4 then (
    (hp_gr h x0 1 1).bind fun v2 =>
    (hp_gr h v2 2 0).bind fun v4 =>
    (hp_gr h x0 1 1).bind fun v6 =>
    (hp_gr h v6 2 0).bind fun v8 =>
    (hp_ai h 0 v8 (x1 + x2)).bind fun v10 =>
    (hp_si h 0 v4 (x1 + x2) ((v10 + x3) &&& (1073741823 : Int32))).bind fun h12 =>
    some h12)
  else (
    (hp_gr h x0 1 1).bind fun v14 =>
    (hp_gr h v14 2 0).bind fun v16 =>
    (hp_ai h 0 v16 (x1 + x4)).bind fun v18 =>
    (hp_gr h x0 1 2).bind fun v20 =>
    (hp_gr h v20 2 0).bind fun v22 =>
    (hp_ai h 0 v22 x4).bind fun v24 =>
    (some ((v18 + v24) + x3)).bind fun v26 =>
    (hp_gr h x0 1 1).bind fun v28 =>
    (hp_gr h v28 2 0).bind fun v30 =>
    (hp_si h 0 v30 (x1 + x4) (v26 &&& (1073741823 : Int32))).bind fun h32 =>
    (some (hp_iushr v26 (30 : Int32))).bind fun v34 =>
    (some (x4 + (1 : Int32))).bind fun v36 =>
    bX1_addBackAt_13 x0 x1 x2 n v34 v36 h32)
def fX1_addBackAt (x0 : Nat) (x1 : Int32) (h : hp_H) : Option hp_H :=
  if hp_o h x0 1 = true then
  (hp_gr h x0 1 2).bind fun v1 =>
  (hp_gi h v1 2 1).bind fun v3 =>
  bX1_addBackAt_13 x0 x1 v3 hp_n (0 : Int32) (0 : Int32) h
  else none
theorem inX1_addBackAt_X1 : ∀ w ∈ wsX10, w ∈ wsX1_addBackAt := by decide +kernel
theorem inX1_addBackAt_X2 : ∀ w ∈ wsX20, w ∈ wsX1_addBackAt := by decide +kernel
theorem lkX1_addBackAt_f18 : Cond.fieldLink RX1 18 (TX1 1).1 (TX1 1).2.1 (TX1 1).2.2.1 ∈ wsX1_addBackAt := by decide +kernel
theorem lkX1_addBackAt_f53 : Cond.fieldLink RX1 53 (TX2 0).1 (TX2 0).2.1 (TX2 0).2.2.1 ∈ wsX1_addBackAt := by decide +kernel
theorem lkX1_addBackAt_c82 : Cond.constant RX1 82 (1073741823) ∈ wsX1_addBackAt := by decide +kernel
theorem lkX1_addBackAt_f21 : Cond.fieldLink RX1 21 (TX1 2).1 (TX1 2).2.1 (TX1 2).2.2.1 ∈ wsX1_addBackAt := by decide +kernel
theorem lkX1_addBackAt_f36 : Cond.fieldLink RX1 36 (TX2 1).1 (TX2 1).2.1 (TX2 1).2.2.1 ∈ wsX1_addBackAt := by decide +kernel
theorem ndX1_addBackAt : yX1_addBackAt.cls ≠ "java/lang/invoke/MethodHandle" ∧ yX1_addBackAt.cls ≠ "java/lang/invoke/VarHandle" ∧ (parseMethodDescriptor yX1_addBackAt.desc).map (fun d => d.parameters.length) = some 1 := by decide +kernel
set_option maxRecDepth 100000 in
set_option maxHeartbeats 4000000 in
theorem wX1_addBackAt_13 {p : Program} {l : Launch} {e : Env} {s : State} {m : MethodId} {args : Array Value} {below : List Frame} {meth : Method} {c : Code} {G : hp_G} {h0 h' : hp_H}  (X : hp_X p s m args meth c cX1_addBackAt 6 RX1 wsX1_addBackAt none G)  {x0 : Nat} {x1 : Int32} {x2 : Int32}   : ∀ (n : Nat) {x3 : Int32} {x4 : Int32} {h : hp_H} {H : Heap} {locs : List Loc} {ls : Array Slot} (Y : hp_Y G h h0 s H locs) (hl : lv_has ls 6 [(0, .ref x0), (1, .int x1), (2, .int x2), (3, .int x3), (4, .int x4)]) (hF : bX1_addBackAt_13 x0 x1 x2 n x3 x4 h = some h'), W p l e rmX1_addBackAt s m args below meth c H locs 0 0 (MQ below (va_Qv (fun u => u = h') (hp_B G h0) (hp_A h0)) args s 0 0 (hp_A h0)) (F0 m 13 ls []) := by
  intro n
  induction n with
  | zero =>
    intro x3 x4 h H locs ls Y hl hF
    exact absurd (show none = some _ from hF) (by simp)
  | succ n ih =>
    intro x3 x4 h H locs ls Y hl hF
    rw [bX1_addBackAt_13] at hF
    refine lv_iload X.1 X.2.1 dX1_addBackAt_13 (lv_at hl 4 rfl) ?_
    refine lv_iload_n X.1 X.2.1 dX1_addBackAt_15 rfl (lv_at hl 2 rfl) ?_
    refine lv_icmp_ge (tgt := 75) X.1 X.2.1 dX1_addBackAt_16 (by decide) (fun c1 => ?_) (fun c1 => ?_)
    · have hF := hp_ifp (c1) hF
      refine lv_aload_n X.1 X.2.1 dX1_addBackAt_75 rfl (lv_at hl 0 rfl) ?_
      obtain ⟨v2, e3, hF⟩ := hp_b hF
      refine hp_getr X Y (C := RX1) (T := TX1) (N := 3) (ci := 1) (k := 1) rfl inX1_addBackAt_X1 (by decide) lkX1_addBackAt_f18 e3 dX1_addBackAt_76 ?_
      obtain ⟨v4, e5, hF⟩ := hp_b hF
      refine hp_getr X Y (C := RX2) (T := TX2) (N := 2) (ci := 2) (k := 0) rfl inX1_addBackAt_X2 (by decide) lkX1_addBackAt_f53 e5 dX1_addBackAt_79 ?_
      refine lv_iload_n X.1 X.2.1 dX1_addBackAt_82 rfl (lv_at hl 1 rfl) ?_
      refine lv_iload_n X.1 X.2.1 dX1_addBackAt_83 rfl (lv_at hl 2 rfl) ?_
      refine lv_iadd X.1 X.2.1 dX1_addBackAt_84 ?_
      refine lv_aload_n X.1 X.2.1 dX1_addBackAt_85 rfl (lv_at hl 0 rfl) ?_
      obtain ⟨v6, e7, hF⟩ := hp_b hF
      refine hp_getr X Y (C := RX1) (T := TX1) (N := 3) (ci := 1) (k := 1) rfl inX1_addBackAt_X1 (by decide) lkX1_addBackAt_f18 e7 dX1_addBackAt_86 ?_
      obtain ⟨v8, e9, hF⟩ := hp_b hF
      refine hp_getr X Y (C := RX2) (T := TX2) (N := 2) (ci := 2) (k := 0) rfl inX1_addBackAt_X2 (by decide) lkX1_addBackAt_f53 e9 dX1_addBackAt_89 ?_
      refine lv_iload_n X.1 X.2.1 dX1_addBackAt_92 rfl (lv_at hl 1 rfl) ?_
      refine lv_iload_n X.1 X.2.1 dX1_addBackAt_93 rfl (lv_at hl 2 rfl) ?_
      refine lv_iadd X.1 X.2.1 dX1_addBackAt_94 ?_
      obtain ⟨v10, e11, hF⟩ := hp_b hF
      refine hp_iald X Y e11 dX1_addBackAt_95 ?_
      refine lv_iload_n X.1 X.2.1 dX1_addBackAt_96 rfl (lv_at hl 3 rfl) ?_
      refine lv_iadd X.1 X.2.1 dX1_addBackAt_97 ?_
      refine lv_ldc (v := 1073741823) X.1 X.2.1 X.2.2.2.1 (X.2.2.2.2.1 _ lkX1_addBackAt_c82) dX1_addBackAt_98 ?_
      refine lv_iand X.1 X.2.1 dX1_addBackAt_100 ?_
      obtain ⟨h12, e13, hF⟩ := hp_b hF
      refine hp_iast X Y e13 dX1_addBackAt_101 (fun H locs Y => ?_)
      cases hF
      exact hp_rv X Y rfl dX1_addBackAt_102
    · have hF := hp_ifn (c1) hF
      refine lv_aload_n X.1 X.2.1 dX1_addBackAt_19 rfl (lv_at hl 0 rfl) ?_
      obtain ⟨v14, e15, hF⟩ := hp_b hF
      refine hp_getr X Y (C := RX1) (T := TX1) (N := 3) (ci := 1) (k := 1) rfl inX1_addBackAt_X1 (by decide) lkX1_addBackAt_f18 e15 dX1_addBackAt_20 ?_
      obtain ⟨v16, e17, hF⟩ := hp_b hF
      refine hp_getr X Y (C := RX2) (T := TX2) (N := 2) (ci := 2) (k := 0) rfl inX1_addBackAt_X2 (by decide) lkX1_addBackAt_f53 e17 dX1_addBackAt_23 ?_
      refine lv_iload_n X.1 X.2.1 dX1_addBackAt_26 rfl (lv_at hl 1 rfl) ?_
      refine lv_iload X.1 X.2.1 dX1_addBackAt_27 (lv_at hl 4 rfl) ?_
      refine lv_iadd X.1 X.2.1 dX1_addBackAt_29 ?_
      obtain ⟨v18, e19, hF⟩ := hp_b hF
      refine hp_iald X Y e19 dX1_addBackAt_30 ?_
      refine lv_aload_n X.1 X.2.1 dX1_addBackAt_31 rfl (lv_at hl 0 rfl) ?_
      obtain ⟨v20, e21, hF⟩ := hp_b hF
      refine hp_getr X Y (C := RX1) (T := TX1) (N := 3) (ci := 1) (k := 2) rfl inX1_addBackAt_X1 (by decide) lkX1_addBackAt_f21 e21 dX1_addBackAt_32 ?_
      obtain ⟨v22, e23, hF⟩ := hp_b hF
      refine hp_getr X Y (C := RX2) (T := TX2) (N := 2) (ci := 2) (k := 0) rfl inX1_addBackAt_X2 (by decide) lkX1_addBackAt_f53 e23 dX1_addBackAt_35 ?_
      refine lv_iload X.1 X.2.1 dX1_addBackAt_38 (lv_at hl 4 rfl) ?_
      obtain ⟨v24, e25, hF⟩ := hp_b hF
      refine hp_iald X Y e25 dX1_addBackAt_40 ?_
      refine lv_iadd X.1 X.2.1 dX1_addBackAt_41 ?_
      refine lv_iload_n X.1 X.2.1 dX1_addBackAt_42 rfl (lv_at hl 3 rfl) ?_
      refine lv_iadd X.1 X.2.1 dX1_addBackAt_43 ?_
      obtain ⟨v26, e27, hF⟩ := hp_b hF
      refine hp_ti (Option.some.inj e27) ?_
      refine lv_istore (lv' := [(5, .int v26), (0, .ref x0), (1, .int x1), (2, .int x2), (3, .int x3), (4, .int x4)]) X.1 X.2.1 dX1_addBackAt_44 hl (by decide) rfl (fun ls hl => ?_)
      refine lv_aload_n X.1 X.2.1 dX1_addBackAt_46 rfl (lv_at hl 1 rfl) ?_
      obtain ⟨v28, e29, hF⟩ := hp_b hF
      refine hp_getr X Y (C := RX1) (T := TX1) (N := 3) (ci := 1) (k := 1) rfl inX1_addBackAt_X1 (by decide) lkX1_addBackAt_f18 e29 dX1_addBackAt_47 ?_
      obtain ⟨v30, e31, hF⟩ := hp_b hF
      refine hp_getr X Y (C := RX2) (T := TX2) (N := 2) (ci := 2) (k := 0) rfl inX1_addBackAt_X2 (by decide) lkX1_addBackAt_f53 e31 dX1_addBackAt_50 ?_
      refine lv_iload_n X.1 X.2.1 dX1_addBackAt_53 rfl (lv_at hl 2 rfl) ?_
      refine lv_iload X.1 X.2.1 dX1_addBackAt_54 (lv_at hl 5 rfl) ?_
      refine lv_iadd X.1 X.2.1 dX1_addBackAt_56 ?_
      refine lv_iload X.1 X.2.1 dX1_addBackAt_57 (lv_at hl 0 rfl) ?_
      refine lv_ldc (v := 1073741823) X.1 X.2.1 X.2.2.2.1 (X.2.2.2.2.1 _ lkX1_addBackAt_c82) dX1_addBackAt_59 ?_
      refine lv_iand X.1 X.2.1 dX1_addBackAt_61 ?_
      obtain ⟨h32, e33, hF⟩ := hp_b hF
      refine hp_iast X Y e33 dX1_addBackAt_62 (fun H locs Y => ?_)
      refine lv_iload X.1 X.2.1 dX1_addBackAt_63 (lv_at hl 0 rfl) ?_
      refine lv_bipush (v := 30) X.1 X.2.1 dX1_addBackAt_65 (by decide) ?_
      refine lv_iushr (v := hp_iushr v26 (30 : Int32)) X.1 X.2.1 dX1_addBackAt_67 rfl ?_
      obtain ⟨v34, e35, hF⟩ := hp_b hF
      refine hp_ti (Option.some.inj e35) ?_
      refine lv_istore_n (lv' := [(3, .int v34), (5, .int v26), (0, .ref x0), (1, .int x1), (2, .int x2), (4, .int x4)]) X.1 X.2.1 dX1_addBackAt_68 rfl hl (by decide) rfl (fun ls hl => ?_)
      obtain ⟨v36, e37, hF⟩ := hp_b hF
      refine lv_iinc (v := v36) (lv' := [(4, .int v36), (3, .int v34), (5, .int v26), (0, .ref x0), (1, .int x1), (2, .int x2)]) X.1 X.2.1 dX1_addBackAt_69 hl (k := 5) rfl (Option.some.inj e37) (by decide) rfl (fun ls hl => ?_)
      refine lv_goto (tgt := 13) X.1 X.2.1 dX1_addBackAt_72 (by decide) ?_
      exact ih Y (lv_sub hl [3, 4, 5, 1, 0] rfl) hF
theorem oX1_addBackAt {x0 : Nat} {x1 : Int32} {h h' : hp_H}  (hF : fX1_addBackAt x0 x1 h = some h') : hp_o h x0 1 = true := by
  unfold fX1_addBackAt at hF
  exact (hp_ift hF).1
set_option maxRecDepth 100000 in
set_option maxHeartbeats 4000000 in
theorem mX1_addBackAt (l : Launch) (G : hp_G) {x0 : Nat} {x1 : Int32} {h h' : hp_H}  (hF : fX1_addBackAt x0 x1 h = some h') : Met l yX1_addBackAt wsX1_addBackAt rmX1_addBackAt (va_Pc [.ref x0, .int x1] (hp_S G h)) (va_Qv (fun u => u = h') (hp_B G h) (hp_A h)) 0 0 (hp_A h) := by
  refine hp_met (cc := cX1_addBackAt) (nL := 6) (ret := none) (by decide) rfl ?_
  intro p e s m below meth c X Y
  have hl := lv_entry ([.ref x0, .int x1]) (n := 6) (Nat.le_of_ble_eq_true rfl)
  rw [lg_entry_eq]
  generalize (lg_sl ([.ref x0, .int x1]) ++ List.replicate (6 - (lg_sl ([.ref x0, .int x1])).length) Slot.unset).toArray = ls at hl ⊢
  have hl : lv_has ls 6 [(0, .ref x0), (1, .int x1)] := hl
  unfold fX1_addBackAt at hF
  obtain ⟨ho, hF⟩ := hp_ift hF
  refine lv_aload_n X.1 X.2.1 dX1_addBackAt_0 rfl (lv_at hl 0 rfl) ?_
  obtain ⟨v1, e2, hF⟩ := hp_b hF
  refine hp_getr X Y (C := RX1) (T := TX1) (N := 3) (ci := 1) (k := 2) rfl inX1_addBackAt_X1 (by decide) lkX1_addBackAt_f21 e2 dX1_addBackAt_1 ?_
  obtain ⟨v3, e4, hF⟩ := hp_b hF
  refine hp_geti X Y (C := RX2) (T := TX2) (N := 2) (ci := 2) (k := 1) rfl inX1_addBackAt_X2 (by decide) lkX1_addBackAt_f36 e4 dX1_addBackAt_4 ?_
  refine lv_istore_n (lv' := [(2, .int v3), (0, .ref x0), (1, .int x1)]) X.1 X.2.1 dX1_addBackAt_7 rfl hl (by decide) rfl (fun ls hl => ?_)
  refine lv_iconst (v := 0) X.1 X.2.1 dX1_addBackAt_8 (by decide) ?_
  refine lv_istore_n (lv' := [(3, .int (0 : Int32)), (2, .int v3), (0, .ref x0), (1, .int x1)]) X.1 X.2.1 dX1_addBackAt_9 rfl hl (by decide) rfl (fun ls hl => ?_)
  refine lv_iconst (v := 0) X.1 X.2.1 dX1_addBackAt_10 (by decide) ?_
  refine lv_istore (lv' := [(4, .int (0 : Int32)), (3, .int (0 : Int32)), (2, .int v3), (0, .ref x0), (1, .int x1)]) X.1 X.2.1 dX1_addBackAt_11 hl (by decide) rfl (fun ls hl => ?_)
  exact wX1_addBackAt_13 X  hp_n Y (lv_sub hl [3, 4, 2, 1, 0] rfl) hF

/-! WholeNumbers$LongDivision.takeDigit -/
def rmX1_takeDigit : Room := { frames := 2, cells := 0, slots := 0, locals := 56 }
def fX1_takeDigit (x0 : Nat) (x1 : Int32) (h : hp_H) : Option (Int32 × hp_H) :=
  if hp_o h x0 1 = true then
  (fX1_guessDigit x0 x1 h).bind fun v2 =>
  (fX1_subtractAt x0 x1 (Int32.toInt64 v2) h).bind fun (v5, h4) =>
  if v5 = 0 then (
    some (v2, h4))
  else (
    (fX1_addBackAt x0 x1 h4).bind fun h9 =>
    (some (v2 + (-1 : Int32))).bind fun v10 =>
    some (v10, h9))
  else none
theorem ndX1_takeDigit : yX1_takeDigit.cls ≠ "java/lang/invoke/MethodHandle" ∧ yX1_takeDigit.cls ≠ "java/lang/invoke/VarHandle" ∧ (parseMethodDescriptor yX1_takeDigit.desc).map (fun d => d.parameters.length) = some 1 := by decide +kernel
theorem oX1_takeDigit {x0 : Nat} {x1 : Int32} {h h' : hp_H} {r : Int32} (hF : fX1_takeDigit x0 x1 h = some (r, h')) : hp_o h x0 1 = true := by
  unfold fX1_takeDigit at hF
  exact (hp_ift hF).1
set_option maxRecDepth 100000 in
set_option maxHeartbeats 4000000 in
theorem mX1_takeDigit (l : Launch) (G : hp_G) {x0 : Nat} {x1 : Int32} {h h' : hp_H} {r : Int32} (hF : fX1_takeDigit x0 x1 h = some (r, h')) : Met l yX1_takeDigit wsX1_takeDigit rmX1_takeDigit (va_Pc [.ref x0, .int x1] (hp_S G h)) (va_Qi (fun r' u => r' = r ∧ u = h') (hp_B G h) (hp_A h)) 0 0 (hp_A h) := by
  refine hp_met (cc := cX1_takeDigit) (nL := 3) (ret := (some .int)) (by decide) rfl ?_
  intro p e s m below meth c X Y
  have hl := lv_entry ([.ref x0, .int x1]) (n := 3) (Nat.le_of_ble_eq_true rfl)
  rw [lg_entry_eq]
  generalize (lg_sl ([.ref x0, .int x1]) ++ List.replicate (3 - (lg_sl ([.ref x0, .int x1])).length) Slot.unset).toArray = ls at hl ⊢
  have hl : lv_has ls 3 [(0, .ref x0), (1, .int x1)] := hl
  unfold fX1_takeDigit at hF
  obtain ⟨ho, hF⟩ := hp_ift hF
  refine lv_aload_n X.1 X.2.1 dX1_takeDigit_0 rfl (lv_at hl 0 rfl) ?_
  refine lv_iload_n X.1 X.2.1 dX1_takeDigit_1 rfl (lv_at hl 1 rfl) ?_
  obtain ⟨v2, e1, hF⟩ := hp_b hF
  refine hp_ci Y (hp_runV X Y (ci := 1) (As := [.int x1]) (n := 1) (T := TX1) (N := 3) (mX1_guessDigit l G e1) rfl (oX1_guessDigit e1) gX1_takeDigit_X1_guessDigit rfl rfl rfl ndX1_guessDigit ⟨Nat.le_of_ble_eq_true rfl, Nat.le_of_ble_eq_true rfl⟩ rfl hl.1 rfl (Nat.le_of_ble_eq_true rfl) dX1_takeDigit_2 ⟨Nat.zero_le _, Nat.zero_le _⟩) (fun H locs Y => ?_)
  refine lv_istore_n (lv' := [(2, .int v2), (0, .ref x0), (1, .int x1)]) X.1 X.2.1 dX1_takeDigit_5 rfl hl (by decide) rfl (fun ls hl => ?_)
  refine lv_aload_n X.1 X.2.1 dX1_takeDigit_6 rfl (lv_at hl 1 rfl) ?_
  refine lv_iload_n X.1 X.2.1 dX1_takeDigit_7 rfl (lv_at hl 2 rfl) ?_
  refine lv_iload_n X.1 X.2.1 dX1_takeDigit_8 rfl (lv_at hl 0 rfl) ?_
  refine lv_i2l (v := Int32.toInt64 v2) X.1 X.2.1 dX1_takeDigit_9 rfl ?_
  obtain ⟨⟨v5, h4⟩, e3, hF⟩ := hp_b hF
  refine hp_ci Y (hp_runV X Y (ci := 1) (As := [.int x1, .long (Int32.toInt64 v2)]) (n := 2) (T := TX1) (N := 3) (mX1_subtractAt l G e3) rfl (oX1_subtractAt e3) gX1_takeDigit_X1_subtractAt rfl rfl rfl ndX1_subtractAt ⟨Nat.le_of_ble_eq_true rfl, Nat.le_of_ble_eq_true rfl⟩ rfl hl.1 rfl (Nat.le_of_ble_eq_true rfl) dX1_takeDigit_10 ⟨Nat.zero_le _, Nat.zero_le _⟩) (fun H locs Y => ?_)
  refine lv_if_eq (tgt := 24) X.1 X.2.1 dX1_takeDigit_13 (by decide) (fun c7 => ?_) (fun c7 => ?_)
  · have hF := hp_ifp (c7) hF
    refine lv_iload_n X.1 X.2.1 dX1_takeDigit_24 rfl (lv_at hl 0 rfl) ?_
    cases hF
    exact hp_ri X Y rfl rfl dX1_takeDigit_25
  · have hF := hp_ifn (c7) hF
    refine lv_aload_n X.1 X.2.1 dX1_takeDigit_16 rfl (lv_at hl 1 rfl) ?_
    refine lv_iload_n X.1 X.2.1 dX1_takeDigit_17 rfl (lv_at hl 2 rfl) ?_
    obtain ⟨h9, e8, hF⟩ := hp_b hF
    refine hp_cv Y (hp_runV X Y (ci := 1) (As := [.int x1]) (n := 1) (T := TX1) (N := 3) (mX1_addBackAt l G e8) rfl (oX1_addBackAt e8) gX1_takeDigit_X1_addBackAt rfl rfl rfl ndX1_addBackAt ⟨Nat.le_of_ble_eq_true rfl, Nat.le_of_ble_eq_true rfl⟩ rfl hl.1 rfl (Nat.le_of_ble_eq_true rfl) dX1_takeDigit_18 ⟨Nat.zero_le _, Nat.zero_le _⟩) (fun H locs Y => ?_)
    obtain ⟨v10, e11, hF⟩ := hp_b hF
    refine lv_iinc (v := v10) (lv' := [(2, .int v10), (0, .ref x0), (1, .int x1)]) X.1 X.2.1 dX1_takeDigit_21 hl (k := 0) rfl (Option.some.inj e11) (by decide) rfl (fun ls hl => ?_)
    refine lv_iload_n X.1 X.2.1 dX1_takeDigit_24 rfl (lv_at hl 0 rfl) ?_
    cases hF
    exact hp_ri X Y rfl rfl dX1_takeDigit_25

/-! WholeNumbers$LongDivision.split -/
def rmX1_split : Room := { frames := 3, cells := 0, slots := 0, locals := 78 }
def bX1_split_81  (x0 : Nat) (x3 : Int32) (x5 : Int32) : Nat → Int32 → hp_H → Option hp_H
  | 0, _, _ => none
  | n + 1, x6, h =>
  if x6 < 0 then (
    (hp_gr h x0 1 0).bind fun v2 =>
    (fX2_trim v2 x5 h).bind fun h5 =>
    (hp_gr h5 x0 1 1).bind fun v6 =>
    (hp_gr h5 x0 1 1).bind fun v8 =>
    (fX2_shiftDown v6 v8 x3 h5).bind fun h11 =>
    some h11)
  else (
    (hp_gr h x0 1 0).bind fun v12 =>
    (hp_gr h v12 2 0).bind fun v14 =>
    (fX1_takeDigit x0 x6 h).bind fun (v18, h17) =>
    (hp_si h17 0 v14 x6 v18).bind fun h20 =>
    (some (x6 + (-1 : Int32))).bind fun v22 =>
    bX1_split_81 x0 x3 x5 n v22 h20)
def fX1_split (x0 : Nat) (x1 : Nat) (x2 : Nat) (h : hp_H) : Option hp_H :=
  if hp_o h x0 1 = true then
  (fX2_isZero x2 h).bind fun v2 =>
  if v2 = 0 then (
    (fX2_spareBits x2 h).bind fun v5 =>
    (hp_gr h x0 1 2).bind fun v6 =>
    (fX2_shiftUp v6 x2 v5 h).bind fun h9 =>
    (hp_gr h9 x0 1 1).bind fun v10 =>
    (fX2_shiftUp v10 x1 v5 h9).bind fun h13 =>
    (hp_gr h13 x0 1 1).bind fun v14 =>
    (hp_gi h13 v14 2 1).bind fun v16 =>
    (some (hp_min v16 (139 : Int32))).bind fun v18 =>
    (hp_gr h13 x0 1 1).bind fun v20 =>
    (fX2_padTo v20 (v18 + (1 : Int32)) h13).bind fun h23 =>
    (hp_gr h23 x0 1 2).bind fun v24 =>
    (hp_gi h23 v24 2 1).bind fun v26 =>
    (some (hp_max ((v18 - v26) + (1 : Int32)) (0 : Int32))).bind fun v28 =>
    (some (v28 - (1 : Int32))).bind fun v30 =>
    bX1_split_81 x0 v5 v28 hp_n v30 h23)
  else (
    some h)
  else none
theorem inX1_split_X1 : ∀ w ∈ wsX10, w ∈ wsX1_split := by decide +kernel
theorem inX1_split_X2 : ∀ w ∈ wsX20, w ∈ wsX1_split := by decide +kernel
theorem lkX1_split_f12 : Cond.fieldLink RX1 12 (TX1 0).1 (TX1 0).2.1 (TX1 0).2.2.1 ∈ wsX1_split := by decide +kernel
theorem lkX1_split_f18 : Cond.fieldLink RX1 18 (TX1 1).1 (TX1 1).2.1 (TX1 1).2.2.1 ∈ wsX1_split := by decide +kernel
theorem lkX1_split_f53 : Cond.fieldLink RX1 53 (TX2 0).1 (TX2 0).2.1 (TX2 0).2.2.1 ∈ wsX1_split := by decide +kernel
theorem lkX1_split_f21 : Cond.fieldLink RX1 21 (TX1 2).1 (TX1 2).2.1 (TX1 2).2.2.1 ∈ wsX1_split := by decide +kernel
theorem lkX1_split_f36 : Cond.fieldLink RX1 36 (TX2 1).1 (TX2 1).2.1 (TX2 1).2.2.1 ∈ wsX1_split := by decide +kernel
theorem lkX1_split_m40 : Cond.methodLink RX1 40 Lib.Math.min.name ∈ wsX1_split := by decide +kernel
theorem lkX1_split_ms_min : Cond.static Lib.Math.min.name ∈ wsX1_split := by decide +kernel
theorem lkX1_split_mi : Cond.initialized "java/lang/Math" ∈ wsX1_split := by decide +kernel
theorem lkX1_split_mc_min : Cond.code Lib.Math.min.name Lib.Math.min.code 2 (some .int) ∈ wsX1_split := by decide +kernel
theorem lkX1_split_m50 : Cond.methodLink RX1 50 Lib.Math.max.name ∈ wsX1_split := by decide +kernel
theorem lkX1_split_ms_max : Cond.static Lib.Math.max.name ∈ wsX1_split := by decide +kernel
theorem lkX1_split_mc_max : Cond.code Lib.Math.max.name Lib.Math.max.code 2 (some .int) ∈ wsX1_split := by decide +kernel
theorem ndX1_split : yX1_split.cls ≠ "java/lang/invoke/MethodHandle" ∧ yX1_split.cls ≠ "java/lang/invoke/VarHandle" ∧ (parseMethodDescriptor yX1_split.desc).map (fun d => d.parameters.length) = some 2 := by decide +kernel
set_option maxRecDepth 100000 in
set_option maxHeartbeats 4000000 in
theorem wX1_split_81 {p : Program} {l : Launch} {e : Env} {s : State} {m : MethodId} {args : Array Value} {below : List Frame} {meth : Method} {c : Code} {G : hp_G} {h0 h' : hp_H}  (X : hp_X p s m args meth c cX1_split 7 RX1 wsX1_split none G)  {x0 : Nat} {x3 : Int32} {x5 : Int32}   : ∀ (n : Nat) {x6 : Int32} {h : hp_H} {H : Heap} {locs : List Loc} {ls : Array Slot} (Y : hp_Y G h h0 s H locs) (hl : lv_has ls 7 [(0, .ref x0), (3, .int x3), (5, .int x5), (6, .int x6)]) (hF : bX1_split_81 x0 x3 x5 n x6 h = some h'), W p l e rmX1_split s m args below meth c H locs 0 0 (MQ below (va_Qv (fun u => u = h') (hp_B G h0) (hp_A h0)) args s 0 0 (hp_A h0)) (F0 m 81 ls []) := by
  intro n
  induction n with
  | zero =>
    intro x6 h H locs ls Y hl hF
    exact absurd (show none = some _ from hF) (by simp)
  | succ n ih =>
    intro x6 h H locs ls Y hl hF
    rw [bX1_split_81] at hF
    refine lv_iload X.1 X.2.1 dX1_split_81 (lv_at hl 3 rfl) ?_
    refine lv_if_lt (tgt := 108) X.1 X.2.1 dX1_split_83 (by decide) (fun c1 => ?_) (fun c1 => ?_)
    · have hF := hp_ifp (c1) hF
      refine lv_aload_n X.1 X.2.1 dX1_split_108 rfl (lv_at hl 0 rfl) ?_
      obtain ⟨v2, e3, hF⟩ := hp_b hF
      refine hp_getr X Y (C := RX1) (T := TX1) (N := 3) (ci := 1) (k := 0) rfl inX1_split_X1 (by decide) lkX1_split_f12 e3 dX1_split_109 ?_
      refine lv_iload X.1 X.2.1 dX1_split_112 (lv_at hl 2 rfl) ?_
      obtain ⟨h5, e4, hF⟩ := hp_b hF
      refine hp_cv Y (hp_runV X Y (ci := 2) (As := [.int x5]) (n := 1) (T := TX2) (N := 2) (mX2_trim l G e4) rfl (oX2_trim e4) gX1_split_X2_trim rfl rfl rfl ndX2_trim ⟨Nat.le_of_ble_eq_true rfl, Nat.le_of_ble_eq_true rfl⟩ rfl hl.1 rfl (Nat.le_of_ble_eq_true rfl) dX1_split_114 ⟨Nat.zero_le _, Nat.zero_le _⟩) (fun H locs Y => ?_)
      refine lv_aload_n X.1 X.2.1 dX1_split_117 rfl (lv_at hl 0 rfl) ?_
      obtain ⟨v6, e7, hF⟩ := hp_b hF
      refine hp_getr X Y (C := RX1) (T := TX1) (N := 3) (ci := 1) (k := 1) rfl inX1_split_X1 (by decide) lkX1_split_f18 e7 dX1_split_118 ?_
      refine lv_aload_n X.1 X.2.1 dX1_split_121 rfl (lv_at hl 0 rfl) ?_
      obtain ⟨v8, e9, hF⟩ := hp_b hF
      refine hp_getr X Y (C := RX1) (T := TX1) (N := 3) (ci := 1) (k := 1) rfl inX1_split_X1 (by decide) lkX1_split_f18 e9 dX1_split_122 ?_
      refine lv_iload_n X.1 X.2.1 dX1_split_125 rfl (lv_at hl 1 rfl) ?_
      obtain ⟨h11, e10, hF⟩ := hp_b hF
      refine hp_cv Y (hp_runV X Y (ci := 2) (As := [.ref v8, .int x3]) (n := 2) (T := TX2) (N := 2) (mX2_shiftDown l G e10) rfl (oX2_shiftDown e10) gX1_split_X2_shiftDown rfl rfl rfl ndX2_shiftDown ⟨Nat.le_of_ble_eq_true rfl, Nat.le_of_ble_eq_true rfl⟩ rfl hl.1 rfl (Nat.le_of_ble_eq_true rfl) dX1_split_126 ⟨Nat.zero_le _, Nat.zero_le _⟩) (fun H locs Y => ?_)
      cases hF
      exact hp_rv X Y rfl dX1_split_129
    · have hF := hp_ifn (c1) hF
      refine lv_aload_n X.1 X.2.1 dX1_split_86 rfl (lv_at hl 0 rfl) ?_
      obtain ⟨v12, e13, hF⟩ := hp_b hF
      refine hp_getr X Y (C := RX1) (T := TX1) (N := 3) (ci := 1) (k := 0) rfl inX1_split_X1 (by decide) lkX1_split_f12 e13 dX1_split_87 ?_
      obtain ⟨v14, e15, hF⟩ := hp_b hF
      refine hp_getr X Y (C := RX2) (T := TX2) (N := 2) (ci := 2) (k := 0) rfl inX1_split_X2 (by decide) lkX1_split_f53 e15 dX1_split_90 ?_
      refine lv_iload X.1 X.2.1 dX1_split_93 (lv_at hl 3 rfl) ?_
      refine lv_aload_n X.1 X.2.1 dX1_split_95 rfl (lv_at hl 0 rfl) ?_
      refine lv_iload X.1 X.2.1 dX1_split_96 (lv_at hl 3 rfl) ?_
      obtain ⟨⟨v18, h17⟩, e16, hF⟩ := hp_b hF
      refine hp_ci Y (hp_runV X Y (ci := 1) (As := [.int x6]) (n := 1) (T := TX1) (N := 3) (mX1_takeDigit l G e16) rfl (oX1_takeDigit e16) gX1_split_X1_takeDigit rfl rfl rfl ndX1_takeDigit ⟨Nat.le_of_ble_eq_true rfl, Nat.le_of_ble_eq_true rfl⟩ rfl hl.1 rfl (Nat.le_of_ble_eq_true rfl) dX1_split_98 ⟨Nat.zero_le _, Nat.zero_le _⟩) (fun H locs Y => ?_)
      obtain ⟨h20, e21, hF⟩ := hp_b hF
      refine hp_iast X Y e21 dX1_split_101 (fun H locs Y => ?_)
      obtain ⟨v22, e23, hF⟩ := hp_b hF
      refine lv_iinc (v := v22) (lv' := [(6, .int v22), (0, .ref x0), (3, .int x3), (5, .int x5)]) X.1 X.2.1 dX1_split_102 hl (k := 3) rfl (Option.some.inj e23) (by decide) rfl (fun ls hl => ?_)
      refine lv_goto (tgt := 81) X.1 X.2.1 dX1_split_105 (by decide) ?_
      exact ih Y (lv_sub hl [1, 2, 3, 0] rfl) hF
theorem oX1_split {x0 : Nat} {x1 : Nat} {x2 : Nat} {h h' : hp_H}  (hF : fX1_split x0 x1 x2 h = some h') : hp_o h x0 1 = true := by
  unfold fX1_split at hF
  exact (hp_ift hF).1
set_option maxRecDepth 100000 in
set_option maxHeartbeats 4000000 in
theorem mX1_split (l : Launch) (G : hp_G) {x0 : Nat} {x1 : Nat} {x2 : Nat} {h h' : hp_H}  (hF : fX1_split x0 x1 x2 h = some h') : Met l yX1_split wsX1_split rmX1_split (va_Pc [.ref x0, .ref x1, .ref x2] (hp_S G h)) (va_Qv (fun u => u = h') (hp_B G h) (hp_A h)) 0 0 (hp_A h) := by
  refine hp_met (cc := cX1_split) (nL := 7) (ret := none) (by decide) rfl ?_
  intro p e s m below meth c X Y
  have hl := lv_entry ([.ref x0, .ref x1, .ref x2]) (n := 7) (Nat.le_of_ble_eq_true rfl)
  rw [lg_entry_eq]
  generalize (lg_sl ([.ref x0, .ref x1, .ref x2]) ++ List.replicate (7 - (lg_sl ([.ref x0, .ref x1, .ref x2])).length) Slot.unset).toArray = ls at hl ⊢
  have hl : lv_has ls 7 [(0, .ref x0), (1, .ref x1), (2, .ref x2)] := hl
  unfold fX1_split at hF
  obtain ⟨ho, hF⟩ := hp_ift hF
  refine lv_aload_n X.1 X.2.1 dX1_split_0 rfl (lv_at hl 2 rfl) ?_
  obtain ⟨v2, e1, hF⟩ := hp_b hF
  refine hp_ci Y (hp_runV X Y (ci := 2) (As := []) (n := 0) (T := TX2) (N := 2) (mX2_isZero l G e1) rfl (oX2_isZero e1) gX1_split_X2_isZero rfl rfl rfl ndX2_isZero ⟨Nat.le_of_ble_eq_true rfl, Nat.le_of_ble_eq_true rfl⟩ rfl hl.1 rfl (Nat.le_of_ble_eq_true rfl) dX1_split_1 ⟨Nat.zero_le _, Nat.zero_le _⟩) (fun H locs Y => ?_)
  refine lv_if_eq (tgt := 8) X.1 X.2.1 dX1_split_4 (by decide) (fun c3 => ?_) (fun c3 => ?_)
  · have hF := hp_ifp (c3) hF
    refine lv_aload_n X.1 X.2.1 dX1_split_8 rfl (lv_at hl 2 rfl) ?_
    obtain ⟨v5, e4, hF⟩ := hp_b hF
    refine hp_ci Y (hp_runV X Y (ci := 2) (As := []) (n := 0) (T := TX2) (N := 2) (mX2_spareBits l G e4) rfl (oX2_spareBits e4) gX1_split_X2_spareBits rfl rfl rfl ndX2_spareBits ⟨Nat.le_of_ble_eq_true rfl, Nat.le_of_ble_eq_true rfl⟩ rfl hl.1 rfl (Nat.le_of_ble_eq_true rfl) dX1_split_9 ⟨Nat.zero_le _, Nat.zero_le _⟩) (fun H locs Y => ?_)
    refine lv_istore_n (lv' := [(3, .int v5), (0, .ref x0), (1, .ref x1), (2, .ref x2)]) X.1 X.2.1 dX1_split_12 rfl hl (by decide) rfl (fun ls hl => ?_)
    refine lv_aload_n X.1 X.2.1 dX1_split_13 rfl (lv_at hl 1 rfl) ?_
    obtain ⟨v6, e7, hF⟩ := hp_b hF
    refine hp_getr X Y (C := RX1) (T := TX1) (N := 3) (ci := 1) (k := 2) rfl inX1_split_X1 (by decide) lkX1_split_f21 e7 dX1_split_14 ?_
    refine lv_aload_n X.1 X.2.1 dX1_split_17 rfl (lv_at hl 3 rfl) ?_
    refine lv_iload_n X.1 X.2.1 dX1_split_18 rfl (lv_at hl 0 rfl) ?_
    obtain ⟨h9, e8, hF⟩ := hp_b hF
    refine hp_cv Y (hp_runV X Y (ci := 2) (As := [.ref x2, .int v5]) (n := 2) (T := TX2) (N := 2) (mX2_shiftUp l G e8) rfl (oX2_shiftUp e8) gX1_split_X2_shiftUp rfl rfl rfl ndX2_shiftUp ⟨Nat.le_of_ble_eq_true rfl, Nat.le_of_ble_eq_true rfl⟩ rfl hl.1 rfl (Nat.le_of_ble_eq_true rfl) dX1_split_19 ⟨Nat.zero_le _, Nat.zero_le _⟩) (fun H locs Y => ?_)
    refine lv_aload_n X.1 X.2.1 dX1_split_22 rfl (lv_at hl 1 rfl) ?_
    obtain ⟨v10, e11, hF⟩ := hp_b hF
    refine hp_getr X Y (C := RX1) (T := TX1) (N := 3) (ci := 1) (k := 1) rfl inX1_split_X1 (by decide) lkX1_split_f18 e11 dX1_split_23 ?_
    refine lv_aload_n X.1 X.2.1 dX1_split_26 rfl (lv_at hl 2 rfl) ?_
    refine lv_iload_n X.1 X.2.1 dX1_split_27 rfl (lv_at hl 0 rfl) ?_
    obtain ⟨h13, e12, hF⟩ := hp_b hF
    refine hp_cv Y (hp_runV X Y (ci := 2) (As := [.ref x1, .int v5]) (n := 2) (T := TX2) (N := 2) (mX2_shiftUp l G e12) rfl (oX2_shiftUp e12) gX1_split_X2_shiftUp rfl rfl rfl ndX2_shiftUp ⟨Nat.le_of_ble_eq_true rfl, Nat.le_of_ble_eq_true rfl⟩ rfl hl.1 rfl (Nat.le_of_ble_eq_true rfl) dX1_split_28 ⟨Nat.zero_le _, Nat.zero_le _⟩) (fun H locs Y => ?_)
    refine lv_aload_n X.1 X.2.1 dX1_split_31 rfl (lv_at hl 1 rfl) ?_
    obtain ⟨v14, e15, hF⟩ := hp_b hF
    refine hp_getr X Y (C := RX1) (T := TX1) (N := 3) (ci := 1) (k := 1) rfl inX1_split_X1 (by decide) lkX1_split_f18 e15 dX1_split_32 ?_
    obtain ⟨v16, e17, hF⟩ := hp_b hF
    refine hp_geti X Y (C := RX2) (T := TX2) (N := 2) (ci := 2) (k := 1) rfl inX1_split_X2 (by decide) lkX1_split_f36 e17 dX1_split_35 ?_
    refine lv_sipush (v := 139) X.1 X.2.1 dX1_split_38 (by decide) ?_
    refine va_mmin X.1 X.2.1 (X.2.2.1.trans hl.1.symm) X.2.2.2.1 (X.2.2.2.2.1 _ lkX1_split_m40) (X.2.2.2.2.1 _ lkX1_split_ms_min) (X.2.2.2.2.1 _ lkX1_split_mi) (X.2.2.2.2.1 _ lkX1_split_mc_min) (Nat.le_of_ble_eq_true rfl) (Nat.le_of_ble_eq_true rfl) (Nat.zero_le _) (Nat.zero_le _) dX1_split_41 ?_
    obtain ⟨v18, e19, hF⟩ := hp_b hF
    refine hp_ti (Option.some.inj e19) ?_
    refine lv_istore (lv' := [(4, .int v18), (3, .int v5), (0, .ref x0), (1, .ref x1), (2, .ref x2)]) X.1 X.2.1 dX1_split_44 hl (by decide) rfl (fun ls hl => ?_)
    refine lv_aload_n X.1 X.2.1 dX1_split_46 rfl (lv_at hl 2 rfl) ?_
    obtain ⟨v20, e21, hF⟩ := hp_b hF
    refine hp_getr X Y (C := RX1) (T := TX1) (N := 3) (ci := 1) (k := 1) rfl inX1_split_X1 (by decide) lkX1_split_f18 e21 dX1_split_47 ?_
    refine lv_iload X.1 X.2.1 dX1_split_50 (lv_at hl 0 rfl) ?_
    refine lv_iconst (v := 1) X.1 X.2.1 dX1_split_52 (by decide) ?_
    refine lv_iadd X.1 X.2.1 dX1_split_53 ?_
    obtain ⟨h23, e22, hF⟩ := hp_b hF
    refine hp_cv Y (hp_runV X Y (ci := 2) (As := [.int (v18 + (1 : Int32))]) (n := 1) (T := TX2) (N := 2) (mX2_padTo l G e22) rfl (oX2_padTo e22) gX1_split_X2_padTo rfl rfl rfl ndX2_padTo ⟨Nat.le_of_ble_eq_true rfl, Nat.le_of_ble_eq_true rfl⟩ rfl hl.1 rfl (Nat.le_of_ble_eq_true rfl) dX1_split_54 ⟨Nat.zero_le _, Nat.zero_le _⟩) (fun H locs Y => ?_)
    refine lv_iload X.1 X.2.1 dX1_split_57 (lv_at hl 0 rfl) ?_
    refine lv_aload_n X.1 X.2.1 dX1_split_59 rfl (lv_at hl 2 rfl) ?_
    obtain ⟨v24, e25, hF⟩ := hp_b hF
    refine hp_getr X Y (C := RX1) (T := TX1) (N := 3) (ci := 1) (k := 2) rfl inX1_split_X1 (by decide) lkX1_split_f21 e25 dX1_split_60 ?_
    obtain ⟨v26, e27, hF⟩ := hp_b hF
    refine hp_geti X Y (C := RX2) (T := TX2) (N := 2) (ci := 2) (k := 1) rfl inX1_split_X2 (by decide) lkX1_split_f36 e27 dX1_split_63 ?_
    refine lv_isub X.1 X.2.1 dX1_split_66 ?_
    refine lv_iconst (v := 1) X.1 X.2.1 dX1_split_67 (by decide) ?_
    refine lv_iadd X.1 X.2.1 dX1_split_68 ?_
    refine lv_iconst (v := 0) X.1 X.2.1 dX1_split_69 (by decide) ?_
    refine va_mmax X.1 X.2.1 (X.2.2.1.trans hl.1.symm) X.2.2.2.1 (X.2.2.2.2.1 _ lkX1_split_m50) (X.2.2.2.2.1 _ lkX1_split_ms_max) (X.2.2.2.2.1 _ lkX1_split_mi) (X.2.2.2.2.1 _ lkX1_split_mc_max) (Nat.le_of_ble_eq_true rfl) (Nat.le_of_ble_eq_true rfl) (Nat.zero_le _) (Nat.zero_le _) dX1_split_70 ?_
    obtain ⟨v28, e29, hF⟩ := hp_b hF
    refine hp_ti (Option.some.inj e29) ?_
    refine lv_istore (lv' := [(5, .int v28), (4, .int v18), (3, .int v5), (0, .ref x0), (1, .ref x1), (2, .ref x2)]) X.1 X.2.1 dX1_split_73 hl (by decide) rfl (fun ls hl => ?_)
    refine lv_iload X.1 X.2.1 dX1_split_75 (lv_at hl 0 rfl) ?_
    refine lv_iconst (v := 1) X.1 X.2.1 dX1_split_77 (by decide) ?_
    refine lv_isub X.1 X.2.1 dX1_split_78 ?_
    obtain ⟨v30, e31, hF⟩ := hp_b hF
    refine hp_ti (Option.some.inj e31) ?_
    refine lv_istore (lv' := [(6, .int v30), (5, .int v28), (4, .int v18), (3, .int v5), (0, .ref x0), (1, .ref x1), (2, .ref x2)]) X.1 X.2.1 dX1_split_79 hl (by decide) rfl (fun ls hl => ?_)
    exact wX1_split_81 X  hp_n Y (lv_sub hl [4, 3, 1, 0] rfl) hF
  · have hF := hp_ifn (c3) hF
    cases hF
    exact hp_rv X Y rfl dX1_split_7
