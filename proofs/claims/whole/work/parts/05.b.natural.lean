/-! WholeNumbers$Natural.takeSum -/
def rmX2_takeSum : Room := { frames := 2, cells := 0, slots := 0, locals := 43 }
def bX2_takeSum_26  (x0 : Nat) (x1 : Nat) (x2 : Nat) (x3 : Int32) : Nat → Int32 → Int32 → hp_H → Option hp_H
  | 0, _, _, _ => none
  | n + 1, x4, x5, h =>
  if x3 ≤ x5 then (
    (fX2_trim x0 x3 h).bind fun h3 =>
    some h3)
  else (
    (fX2_limb x1 x5 h).bind fun v5 =>
    (fX2_limb x2 x5 h).bind fun v7 =>
    (some ((v5 + v7) + x4)).bind fun v8 =>
    (hp_gr h x0 2 0).bind fun v10 =>
    (hp_si h 0 v10 x5 (v8 &&& (1073741823 : Int32))).bind fun h12 =>
    (some (hp_iushr v8 (30 : Int32))).bind fun v14 =>
    (some (x5 + (1 : Int32))).bind fun v16 =>
    bX2_takeSum_26 x0 x1 x2 x3 n v14 v16 h12)
def fX2_takeSum (x0 : Nat) (x1 : Nat) (x2 : Nat) (h : hp_H) : Option hp_H :=
  if hp_o h x0 2 = true then
  (hp_gi h x1 2 1).bind fun v1 =>
  (hp_gi h x2 2 1).bind fun v3 =>
  (some (hp_min ((hp_max v1 v3) + (1 : Int32)) (140 : Int32))).bind fun v5 =>
  bX2_takeSum_26 x0 x1 x2 v5 hp_n (0 : Int32) (0 : Int32) h
  else none
theorem inX2_takeSum_X2 : ∀ w ∈ wsX20, w ∈ wsX2_takeSum := by decide +kernel
theorem lkX2_takeSum_f9 : Cond.fieldLink RX2 9 (TX2 0).1 (TX2 0).2.1 (TX2 0).2.2.1 ∈ wsX2_takeSum := by decide +kernel
theorem lkX2_takeSum_c32 : Cond.constant RX2 32 (1073741823) ∈ wsX2_takeSum := by decide +kernel
theorem lkX2_takeSum_f15 : Cond.fieldLink RX2 15 (TX2 1).1 (TX2 1).2.1 (TX2 1).2.2.1 ∈ wsX2_takeSum := by decide +kernel
theorem lkX2_takeSum_m49 : Cond.methodLink RX2 49 Lib.Math.max.name ∈ wsX2_takeSum := by decide +kernel
theorem lkX2_takeSum_ms_max : Cond.static Lib.Math.max.name ∈ wsX2_takeSum := by decide +kernel
theorem lkX2_takeSum_mi : Cond.initialized "java/lang/Math" ∈ wsX2_takeSum := by decide +kernel
theorem lkX2_takeSum_mc_max : Cond.code Lib.Math.max.name Lib.Math.max.code 2 (some .int) ∈ wsX2_takeSum := by decide +kernel
theorem lkX2_takeSum_m43 : Cond.methodLink RX2 43 Lib.Math.min.name ∈ wsX2_takeSum := by decide +kernel
theorem lkX2_takeSum_ms_min : Cond.static Lib.Math.min.name ∈ wsX2_takeSum := by decide +kernel
theorem lkX2_takeSum_mc_min : Cond.code Lib.Math.min.name Lib.Math.min.code 2 (some .int) ∈ wsX2_takeSum := by decide +kernel
theorem ndX2_takeSum : yX2_takeSum.cls ≠ "java/lang/invoke/MethodHandle" ∧ yX2_takeSum.cls ≠ "java/lang/invoke/VarHandle" ∧ (parseMethodDescriptor yX2_takeSum.desc).map (fun d => d.parameters.length) = some 2 := by decide +kernel
set_option maxRecDepth 100000 in
set_option maxHeartbeats 4000000 in
theorem wX2_takeSum_26 {p : Program} {l : Launch} {e : Env} {s : State} {m : MethodId} {args : Array Value} {below : List Frame} {meth : Method} {c : Code} {G : hp_G} {h0 h' : hp_H}  (X : hp_X p s m args meth c cX2_takeSum 7 RX2 wsX2_takeSum none G)  {x0 : Nat} {x1 : Nat} {x2 : Nat} {x3 : Int32}   : ∀ (n : Nat) {x4 : Int32} {x5 : Int32} {h : hp_H} {H : Heap} {locs : List Loc} {ls : Array Slot} (Y : hp_Y G h h0 s H locs) (hl : lv_has ls 7 [(0, .ref x0), (1, .ref x1), (2, .ref x2), (3, .int x3), (4, .int x4), (5, .int x5)]) (hF : bX2_takeSum_26 x0 x1 x2 x3 n x4 x5 h = some h'), W p l e rmX2_takeSum s m args below meth c H locs 0 0 (MQ below (va_Qv (fun u => u = h') (hp_B G h0) (hp_A h0)) args s 0 0 (hp_A h0)) (F0 m 26 ls []) := by
  intro n
  induction n with
  | zero =>
    intro x4 x5 h H locs ls Y hl hF
    exact absurd (show none = some _ from hF) (by simp)
  | succ n ih =>
    intro x4 x5 h H locs ls Y hl hF
    rw [bX2_takeSum_26] at hF
    refine lv_iload X.1 X.2.1 dX2_takeSum_26 (lv_at hl 5 rfl) ?_
    refine lv_iload_n X.1 X.2.1 dX2_takeSum_28 rfl (lv_at hl 3 rfl) ?_
    refine lv_icmp_ge (tgt := 75) X.1 X.2.1 dX2_takeSum_29 (by decide) (fun c1 => ?_) (fun c1 => ?_)
    · have hF := hp_ifp (c1) hF
      refine lv_aload_n X.1 X.2.1 dX2_takeSum_75 rfl (lv_at hl 0 rfl) ?_
      refine lv_iload_n X.1 X.2.1 dX2_takeSum_76 rfl (lv_at hl 3 rfl) ?_
      obtain ⟨h3, e2, hF⟩ := hp_b hF
      refine hp_cv Y (hp_runV X Y (ci := 2) (As := [.int x3]) (n := 1) (T := TX2) (N := 2) (mX2_trim l G e2) rfl (oX2_trim e2) gX2_takeSum_X2_trim rfl rfl rfl ndX2_trim ⟨Nat.le_of_ble_eq_true rfl, Nat.le_of_ble_eq_true rfl⟩ rfl hl.1 rfl (Nat.le_of_ble_eq_true rfl) dX2_takeSum_77 ⟨Nat.zero_le _, Nat.zero_le _⟩) (fun H locs Y => ?_)
      cases hF
      exact hp_rv X Y rfl dX2_takeSum_80
    · have hF := hp_ifn (c1) hF
      refine lv_aload_n X.1 X.2.1 dX2_takeSum_32 rfl (lv_at hl 1 rfl) ?_
      refine lv_iload X.1 X.2.1 dX2_takeSum_33 (lv_at hl 5 rfl) ?_
      obtain ⟨v5, e4, hF⟩ := hp_b hF
      refine hp_ci Y (hp_runV X Y (ci := 2) (As := [.int x5]) (n := 1) (T := TX2) (N := 2) (mX2_limb l G e4) rfl (oX2_limb e4) gX2_takeSum_X2_limb rfl rfl rfl ndX2_limb ⟨Nat.le_of_ble_eq_true rfl, Nat.le_of_ble_eq_true rfl⟩ rfl hl.1 rfl (Nat.le_of_ble_eq_true rfl) dX2_takeSum_35 ⟨Nat.zero_le _, Nat.zero_le _⟩) (fun H locs Y => ?_)
      refine lv_aload_n X.1 X.2.1 dX2_takeSum_38 rfl (lv_at hl 2 rfl) ?_
      refine lv_iload X.1 X.2.1 dX2_takeSum_39 (lv_at hl 5 rfl) ?_
      obtain ⟨v7, e6, hF⟩ := hp_b hF
      refine hp_ci Y (hp_runV X Y (ci := 2) (As := [.int x5]) (n := 1) (T := TX2) (N := 2) (mX2_limb l G e6) rfl (oX2_limb e6) gX2_takeSum_X2_limb rfl rfl rfl ndX2_limb ⟨Nat.le_of_ble_eq_true rfl, Nat.le_of_ble_eq_true rfl⟩ rfl hl.1 rfl (Nat.le_of_ble_eq_true rfl) dX2_takeSum_41 ⟨Nat.zero_le _, Nat.zero_le _⟩) (fun H locs Y => ?_)
      refine lv_iadd X.1 X.2.1 dX2_takeSum_44 ?_
      refine lv_iload X.1 X.2.1 dX2_takeSum_45 (lv_at hl 4 rfl) ?_
      refine lv_iadd X.1 X.2.1 dX2_takeSum_47 ?_
      obtain ⟨v8, e9, hF⟩ := hp_b hF
      refine hp_ti (Option.some.inj e9) ?_
      refine lv_istore (lv' := [(6, .int v8), (0, .ref x0), (1, .ref x1), (2, .ref x2), (3, .int x3), (4, .int x4), (5, .int x5)]) X.1 X.2.1 dX2_takeSum_48 hl (by decide) rfl (fun ls hl => ?_)
      refine lv_aload_n X.1 X.2.1 dX2_takeSum_50 rfl (lv_at hl 1 rfl) ?_
      obtain ⟨v10, e11, hF⟩ := hp_b hF
      refine hp_getr X Y (C := RX2) (T := TX2) (N := 2) (ci := 2) (k := 0) rfl inX2_takeSum_X2 (by decide) lkX2_takeSum_f9 e11 dX2_takeSum_51 ?_
      refine lv_iload X.1 X.2.1 dX2_takeSum_54 (lv_at hl 6 rfl) ?_
      refine lv_iload X.1 X.2.1 dX2_takeSum_56 (lv_at hl 0 rfl) ?_
      refine lv_ldc (v := 1073741823) X.1 X.2.1 X.2.2.2.1 (X.2.2.2.2.1 _ lkX2_takeSum_c32) dX2_takeSum_58 ?_
      refine lv_iand X.1 X.2.1 dX2_takeSum_60 ?_
      obtain ⟨h12, e13, hF⟩ := hp_b hF
      refine hp_iast X Y e13 dX2_takeSum_61 (fun H locs Y => ?_)
      refine lv_iload X.1 X.2.1 dX2_takeSum_62 (lv_at hl 0 rfl) ?_
      refine lv_bipush (v := 30) X.1 X.2.1 dX2_takeSum_64 (by decide) ?_
      refine lv_iushr (v := hp_iushr v8 (30 : Int32)) X.1 X.2.1 dX2_takeSum_66 rfl ?_
      obtain ⟨v14, e15, hF⟩ := hp_b hF
      refine hp_ti (Option.some.inj e15) ?_
      refine lv_istore (lv' := [(4, .int v14), (6, .int v8), (0, .ref x0), (1, .ref x1), (2, .ref x2), (3, .int x3), (5, .int x5)]) X.1 X.2.1 dX2_takeSum_67 hl (by decide) rfl (fun ls hl => ?_)
      obtain ⟨v16, e17, hF⟩ := hp_b hF
      refine lv_iinc (v := v16) (lv' := [(5, .int v16), (4, .int v14), (6, .int v8), (0, .ref x0), (1, .ref x1), (2, .ref x2), (3, .int x3)]) X.1 X.2.1 dX2_takeSum_69 hl (k := 6) rfl (Option.some.inj e17) (by decide) rfl (fun ls hl => ?_)
      refine lv_goto (tgt := 26) X.1 X.2.1 dX2_takeSum_72 (by decide) ?_
      exact ih Y (lv_sub hl [3, 4, 5, 6, 1, 0] rfl) hF
theorem oX2_takeSum {x0 : Nat} {x1 : Nat} {x2 : Nat} {h h' : hp_H}  (hF : fX2_takeSum x0 x1 x2 h = some h') : hp_o h x0 2 = true := by
  unfold fX2_takeSum at hF
  exact (hp_ift hF).1
set_option maxRecDepth 100000 in
set_option maxHeartbeats 4000000 in
theorem mX2_takeSum (l : Launch) (G : hp_G) {x0 : Nat} {x1 : Nat} {x2 : Nat} {h h' : hp_H}  (hF : fX2_takeSum x0 x1 x2 h = some h') : Met l yX2_takeSum wsX2_takeSum rmX2_takeSum (va_Pc [.ref x0, .ref x1, .ref x2] (hp_S G h)) (va_Qv (fun u => u = h') (hp_B G h) (hp_A h)) 0 0 (hp_A h) := by
  refine hp_met (cc := cX2_takeSum) (nL := 7) (ret := none) (by decide) rfl ?_
  intro p e s m below meth c X Y
  have hl := lv_entry ([.ref x0, .ref x1, .ref x2]) (n := 7) (Nat.le_of_ble_eq_true rfl)
  rw [lg_entry_eq]
  generalize (lg_sl ([.ref x0, .ref x1, .ref x2]) ++ List.replicate (7 - (lg_sl ([.ref x0, .ref x1, .ref x2])).length) Slot.unset).toArray = ls at hl ⊢
  have hl : lv_has ls 7 [(0, .ref x0), (1, .ref x1), (2, .ref x2)] := hl
  unfold fX2_takeSum at hF
  obtain ⟨ho, hF⟩ := hp_ift hF
  refine lv_aload_n X.1 X.2.1 dX2_takeSum_0 rfl (lv_at hl 1 rfl) ?_
  obtain ⟨v1, e2, hF⟩ := hp_b hF
  refine hp_geti X Y (C := RX2) (T := TX2) (N := 2) (ci := 2) (k := 1) rfl inX2_takeSum_X2 (by decide) lkX2_takeSum_f15 e2 dX2_takeSum_1 ?_
  refine lv_aload_n X.1 X.2.1 dX2_takeSum_4 rfl (lv_at hl 2 rfl) ?_
  obtain ⟨v3, e4, hF⟩ := hp_b hF
  refine hp_geti X Y (C := RX2) (T := TX2) (N := 2) (ci := 2) (k := 1) rfl inX2_takeSum_X2 (by decide) lkX2_takeSum_f15 e4 dX2_takeSum_5 ?_
  refine va_mmax X.1 X.2.1 (X.2.2.1.trans hl.1.symm) X.2.2.2.1 (X.2.2.2.2.1 _ lkX2_takeSum_m49) (X.2.2.2.2.1 _ lkX2_takeSum_ms_max) (X.2.2.2.2.1 _ lkX2_takeSum_mi) (X.2.2.2.2.1 _ lkX2_takeSum_mc_max) (Nat.le_of_ble_eq_true rfl) (Nat.le_of_ble_eq_true rfl) (Nat.zero_le _) (Nat.zero_le _) dX2_takeSum_8 ?_
  refine lv_iconst (v := 1) X.1 X.2.1 dX2_takeSum_11 (by decide) ?_
  refine lv_iadd X.1 X.2.1 dX2_takeSum_12 ?_
  refine lv_sipush (v := 140) X.1 X.2.1 dX2_takeSum_13 (by decide) ?_
  refine va_mmin X.1 X.2.1 (X.2.2.1.trans hl.1.symm) X.2.2.2.1 (X.2.2.2.2.1 _ lkX2_takeSum_m43) (X.2.2.2.2.1 _ lkX2_takeSum_ms_min) (X.2.2.2.2.1 _ lkX2_takeSum_mi) (X.2.2.2.2.1 _ lkX2_takeSum_mc_min) (Nat.le_of_ble_eq_true rfl) (Nat.le_of_ble_eq_true rfl) (Nat.zero_le _) (Nat.zero_le _) dX2_takeSum_16 ?_
  obtain ⟨v5, e6, hF⟩ := hp_b hF
  refine hp_ti (Option.some.inj e6) ?_
  refine lv_istore_n (lv' := [(3, .int v5), (0, .ref x0), (1, .ref x1), (2, .ref x2)]) X.1 X.2.1 dX2_takeSum_19 rfl hl (by decide) rfl (fun ls hl => ?_)
  refine lv_iconst (v := 0) X.1 X.2.1 dX2_takeSum_20 (by decide) ?_
  refine lv_istore (lv' := [(4, .int (0 : Int32)), (3, .int v5), (0, .ref x0), (1, .ref x1), (2, .ref x2)]) X.1 X.2.1 dX2_takeSum_21 hl (by decide) rfl (fun ls hl => ?_)
  refine lv_iconst (v := 0) X.1 X.2.1 dX2_takeSum_23 (by decide) ?_
  refine lv_istore (lv' := [(5, .int (0 : Int32)), (4, .int (0 : Int32)), (3, .int v5), (0, .ref x0), (1, .ref x1), (2, .ref x2)]) X.1 X.2.1 dX2_takeSum_24 hl (by decide) rfl (fun ls hl => ?_)
  exact wX2_takeSum_26 X  hp_n Y (lv_sub hl [3, 4, 5, 2, 1, 0] rfl) hF

/-! WholeNumbers$Natural.takeDifference -/
def rmX2_takeDifference : Room := { frames := 2, cells := 0, slots := 0, locals := 43 }
def bX2_takeDifference_11  (x0 : Nat) (x1 : Nat) (x2 : Nat) (x3 : Int32) : Nat → Int32 → Int32 → hp_H → Option hp_H
  | 0, _, _, _ => none
  | n + 1, x4, x5, h =>
  if x3 ≤ x5 then (
    (fX2_trim x0 x3 h).bind fun h3 =>
    some h3)
  else (
    (fX2_limb x1 x5 h).bind fun v5 =>
    (fX2_limb x2 x5 h).bind fun v7 =>
    (some ((v5 - v7) + x4)).bind fun v8 =>
    (hp_gr h x0 2 0).bind fun v10 =>
    (hp_si h 0 v10 x5 (v8 &&& (1073741823 : Int32))).bind fun h12 =>
    (some (hp_ishr v8 (30 : Int32))).bind fun v14 =>
    (some (x5 + (1 : Int32))).bind fun v16 =>
    bX2_takeDifference_11 x0 x1 x2 x3 n v14 v16 h12)
def fX2_takeDifference (x0 : Nat) (x1 : Nat) (x2 : Nat) (h : hp_H) : Option hp_H :=
  if hp_o h x0 2 = true then
  (hp_gi h x1 2 1).bind fun v1 =>
  bX2_takeDifference_11 x0 x1 x2 v1 hp_n (0 : Int32) (0 : Int32) h
  else none
theorem inX2_takeDifference_X2 : ∀ w ∈ wsX20, w ∈ wsX2_takeDifference := by decide +kernel
theorem lkX2_takeDifference_f9 : Cond.fieldLink RX2 9 (TX2 0).1 (TX2 0).2.1 (TX2 0).2.2.1 ∈ wsX2_takeDifference := by decide +kernel
theorem lkX2_takeDifference_c32 : Cond.constant RX2 32 (1073741823) ∈ wsX2_takeDifference := by decide +kernel
theorem lkX2_takeDifference_f15 : Cond.fieldLink RX2 15 (TX2 1).1 (TX2 1).2.1 (TX2 1).2.2.1 ∈ wsX2_takeDifference := by decide +kernel
theorem ndX2_takeDifference : yX2_takeDifference.cls ≠ "java/lang/invoke/MethodHandle" ∧ yX2_takeDifference.cls ≠ "java/lang/invoke/VarHandle" ∧ (parseMethodDescriptor yX2_takeDifference.desc).map (fun d => d.parameters.length) = some 2 := by decide +kernel
set_option maxRecDepth 100000 in
set_option maxHeartbeats 4000000 in
theorem wX2_takeDifference_11 {p : Program} {l : Launch} {e : Env} {s : State} {m : MethodId} {args : Array Value} {below : List Frame} {meth : Method} {c : Code} {G : hp_G} {h0 h' : hp_H}  (X : hp_X p s m args meth c cX2_takeDifference 7 RX2 wsX2_takeDifference none G)  {x0 : Nat} {x1 : Nat} {x2 : Nat} {x3 : Int32}   : ∀ (n : Nat) {x4 : Int32} {x5 : Int32} {h : hp_H} {H : Heap} {locs : List Loc} {ls : Array Slot} (Y : hp_Y G h h0 s H locs) (hl : lv_has ls 7 [(0, .ref x0), (1, .ref x1), (2, .ref x2), (3, .int x3), (4, .int x4), (5, .int x5)]) (hF : bX2_takeDifference_11 x0 x1 x2 x3 n x4 x5 h = some h'), W p l e rmX2_takeDifference s m args below meth c H locs 0 0 (MQ below (va_Qv (fun u => u = h') (hp_B G h0) (hp_A h0)) args s 0 0 (hp_A h0)) (F0 m 11 ls []) := by
  intro n
  induction n with
  | zero =>
    intro x4 x5 h H locs ls Y hl hF
    exact absurd (show none = some _ from hF) (by simp)
  | succ n ih =>
    intro x4 x5 h H locs ls Y hl hF
    rw [bX2_takeDifference_11] at hF
    refine lv_iload X.1 X.2.1 dX2_takeDifference_11 (lv_at hl 5 rfl) ?_
    refine lv_iload_n X.1 X.2.1 dX2_takeDifference_13 rfl (lv_at hl 3 rfl) ?_
    refine lv_icmp_ge (tgt := 60) X.1 X.2.1 dX2_takeDifference_14 (by decide) (fun c1 => ?_) (fun c1 => ?_)
    · have hF := hp_ifp (c1) hF
      refine lv_aload_n X.1 X.2.1 dX2_takeDifference_60 rfl (lv_at hl 0 rfl) ?_
      refine lv_iload_n X.1 X.2.1 dX2_takeDifference_61 rfl (lv_at hl 3 rfl) ?_
      obtain ⟨h3, e2, hF⟩ := hp_b hF
      refine hp_cv Y (hp_runV X Y (ci := 2) (As := [.int x3]) (n := 1) (T := TX2) (N := 2) (mX2_trim l G e2) rfl (oX2_trim e2) gX2_takeDifference_X2_trim rfl rfl rfl ndX2_trim ⟨Nat.le_of_ble_eq_true rfl, Nat.le_of_ble_eq_true rfl⟩ rfl hl.1 rfl (Nat.le_of_ble_eq_true rfl) dX2_takeDifference_62 ⟨Nat.zero_le _, Nat.zero_le _⟩) (fun H locs Y => ?_)
      cases hF
      exact hp_rv X Y rfl dX2_takeDifference_65
    · have hF := hp_ifn (c1) hF
      refine lv_aload_n X.1 X.2.1 dX2_takeDifference_17 rfl (lv_at hl 1 rfl) ?_
      refine lv_iload X.1 X.2.1 dX2_takeDifference_18 (lv_at hl 5 rfl) ?_
      obtain ⟨v5, e4, hF⟩ := hp_b hF
      refine hp_ci Y (hp_runV X Y (ci := 2) (As := [.int x5]) (n := 1) (T := TX2) (N := 2) (mX2_limb l G e4) rfl (oX2_limb e4) gX2_takeDifference_X2_limb rfl rfl rfl ndX2_limb ⟨Nat.le_of_ble_eq_true rfl, Nat.le_of_ble_eq_true rfl⟩ rfl hl.1 rfl (Nat.le_of_ble_eq_true rfl) dX2_takeDifference_20 ⟨Nat.zero_le _, Nat.zero_le _⟩) (fun H locs Y => ?_)
      refine lv_aload_n X.1 X.2.1 dX2_takeDifference_23 rfl (lv_at hl 2 rfl) ?_
      refine lv_iload X.1 X.2.1 dX2_takeDifference_24 (lv_at hl 5 rfl) ?_
      obtain ⟨v7, e6, hF⟩ := hp_b hF
      refine hp_ci Y (hp_runV X Y (ci := 2) (As := [.int x5]) (n := 1) (T := TX2) (N := 2) (mX2_limb l G e6) rfl (oX2_limb e6) gX2_takeDifference_X2_limb rfl rfl rfl ndX2_limb ⟨Nat.le_of_ble_eq_true rfl, Nat.le_of_ble_eq_true rfl⟩ rfl hl.1 rfl (Nat.le_of_ble_eq_true rfl) dX2_takeDifference_26 ⟨Nat.zero_le _, Nat.zero_le _⟩) (fun H locs Y => ?_)
      refine lv_isub X.1 X.2.1 dX2_takeDifference_29 ?_
      refine lv_iload X.1 X.2.1 dX2_takeDifference_30 (lv_at hl 4 rfl) ?_
      refine lv_iadd X.1 X.2.1 dX2_takeDifference_32 ?_
      obtain ⟨v8, e9, hF⟩ := hp_b hF
      refine hp_ti (Option.some.inj e9) ?_
      refine lv_istore (lv' := [(6, .int v8), (0, .ref x0), (1, .ref x1), (2, .ref x2), (3, .int x3), (4, .int x4), (5, .int x5)]) X.1 X.2.1 dX2_takeDifference_33 hl (by decide) rfl (fun ls hl => ?_)
      refine lv_aload_n X.1 X.2.1 dX2_takeDifference_35 rfl (lv_at hl 1 rfl) ?_
      obtain ⟨v10, e11, hF⟩ := hp_b hF
      refine hp_getr X Y (C := RX2) (T := TX2) (N := 2) (ci := 2) (k := 0) rfl inX2_takeDifference_X2 (by decide) lkX2_takeDifference_f9 e11 dX2_takeDifference_36 ?_
      refine lv_iload X.1 X.2.1 dX2_takeDifference_39 (lv_at hl 6 rfl) ?_
      refine lv_iload X.1 X.2.1 dX2_takeDifference_41 (lv_at hl 0 rfl) ?_
      refine lv_ldc (v := 1073741823) X.1 X.2.1 X.2.2.2.1 (X.2.2.2.2.1 _ lkX2_takeDifference_c32) dX2_takeDifference_43 ?_
      refine lv_iand X.1 X.2.1 dX2_takeDifference_45 ?_
      obtain ⟨h12, e13, hF⟩ := hp_b hF
      refine hp_iast X Y e13 dX2_takeDifference_46 (fun H locs Y => ?_)
      refine lv_iload X.1 X.2.1 dX2_takeDifference_47 (lv_at hl 0 rfl) ?_
      refine lv_bipush (v := 30) X.1 X.2.1 dX2_takeDifference_49 (by decide) ?_
      refine lv_ishr X.1 X.2.1 dX2_takeDifference_51 ?_
      obtain ⟨v14, e15, hF⟩ := hp_b hF
      refine hp_ti (Option.some.inj e15) ?_
      refine lv_istore (lv' := [(4, .int v14), (6, .int v8), (0, .ref x0), (1, .ref x1), (2, .ref x2), (3, .int x3), (5, .int x5)]) X.1 X.2.1 dX2_takeDifference_52 hl (by decide) rfl (fun ls hl => ?_)
      obtain ⟨v16, e17, hF⟩ := hp_b hF
      refine lv_iinc (v := v16) (lv' := [(5, .int v16), (4, .int v14), (6, .int v8), (0, .ref x0), (1, .ref x1), (2, .ref x2), (3, .int x3)]) X.1 X.2.1 dX2_takeDifference_54 hl (k := 6) rfl (Option.some.inj e17) (by decide) rfl (fun ls hl => ?_)
      refine lv_goto (tgt := 11) X.1 X.2.1 dX2_takeDifference_57 (by decide) ?_
      exact ih Y (lv_sub hl [3, 4, 5, 6, 1, 0] rfl) hF
theorem oX2_takeDifference {x0 : Nat} {x1 : Nat} {x2 : Nat} {h h' : hp_H}  (hF : fX2_takeDifference x0 x1 x2 h = some h') : hp_o h x0 2 = true := by
  unfold fX2_takeDifference at hF
  exact (hp_ift hF).1
set_option maxRecDepth 100000 in
set_option maxHeartbeats 4000000 in
theorem mX2_takeDifference (l : Launch) (G : hp_G) {x0 : Nat} {x1 : Nat} {x2 : Nat} {h h' : hp_H}  (hF : fX2_takeDifference x0 x1 x2 h = some h') : Met l yX2_takeDifference wsX2_takeDifference rmX2_takeDifference (va_Pc [.ref x0, .ref x1, .ref x2] (hp_S G h)) (va_Qv (fun u => u = h') (hp_B G h) (hp_A h)) 0 0 (hp_A h) := by
  refine hp_met (cc := cX2_takeDifference) (nL := 7) (ret := none) (by decide) rfl ?_
  intro p e s m below meth c X Y
  have hl := lv_entry ([.ref x0, .ref x1, .ref x2]) (n := 7) (Nat.le_of_ble_eq_true rfl)
  rw [lg_entry_eq]
  generalize (lg_sl ([.ref x0, .ref x1, .ref x2]) ++ List.replicate (7 - (lg_sl ([.ref x0, .ref x1, .ref x2])).length) Slot.unset).toArray = ls at hl ⊢
  have hl : lv_has ls 7 [(0, .ref x0), (1, .ref x1), (2, .ref x2)] := hl
  unfold fX2_takeDifference at hF
  obtain ⟨ho, hF⟩ := hp_ift hF
  refine lv_aload_n X.1 X.2.1 dX2_takeDifference_0 rfl (lv_at hl 1 rfl) ?_
  obtain ⟨v1, e2, hF⟩ := hp_b hF
  refine hp_geti X Y (C := RX2) (T := TX2) (N := 2) (ci := 2) (k := 1) rfl inX2_takeDifference_X2 (by decide) lkX2_takeDifference_f15 e2 dX2_takeDifference_1 ?_
  refine lv_istore_n (lv' := [(3, .int v1), (0, .ref x0), (1, .ref x1), (2, .ref x2)]) X.1 X.2.1 dX2_takeDifference_4 rfl hl (by decide) rfl (fun ls hl => ?_)
  refine lv_iconst (v := 0) X.1 X.2.1 dX2_takeDifference_5 (by decide) ?_
  refine lv_istore (lv' := [(4, .int (0 : Int32)), (3, .int v1), (0, .ref x0), (1, .ref x1), (2, .ref x2)]) X.1 X.2.1 dX2_takeDifference_6 hl (by decide) rfl (fun ls hl => ?_)
  refine lv_iconst (v := 0) X.1 X.2.1 dX2_takeDifference_8 (by decide) ?_
  refine lv_istore (lv' := [(5, .int (0 : Int32)), (4, .int (0 : Int32)), (3, .int v1), (0, .ref x0), (1, .ref x1), (2, .ref x2)]) X.1 X.2.1 dX2_takeDifference_9 hl (by decide) rfl (fun ls hl => ?_)
  exact wX2_takeDifference_11 X  hp_n Y (lv_sub hl [3, 4, 5, 2, 1, 0] rfl) hF

/-! WholeNumbers$Natural.addRow -/
def rmX2_addRow : Room := { frames := 0, cells := 0, slots := 0, locals := 0 }
def bX2_addRow_6  (x0 : Nat) (x1 : Nat) (x2 : Int64) (x4 : Int32) : Nat → Int64 → Int32 → hp_H → Option (Int32 × hp_H)
  | 0, _, _, _ => none
  | n + 1, x5, x7, h =>
  (hp_gi h x1 2 1).bind fun v1 =>
  if v1 ≤ x7 then (
    some (Int64.toInt32 x5, h))
  else (
    (hp_gr h x1 2 0).bind fun v4 =>
    (hp_ai h 0 v4 x7).bind fun v6 =>
    (hp_gr h x0 2 0).bind fun v8 =>
    (hp_ai h 0 v8 (x4 + x7)).bind fun v10 =>
    (some (((x2 * (Int32.toInt64 v6)) + (Int32.toInt64 v10)) + x5)).bind fun v12 =>
    (hp_gr h x0 2 0).bind fun v14 =>
    (hp_si h 0 v14 (x4 + x7) ((Int64.toInt32 v12) &&& (1073741823 : Int32))).bind fun h16 =>
    (some (hp_lushr v12 (30 : Int32))).bind fun v18 =>
    (some (x7 + (1 : Int32))).bind fun v20 =>
    bX2_addRow_6 x0 x1 x2 x4 n v18 v20 h16)
def fX2_addRow (x0 : Nat) (x1 : Nat) (x2 : Int64) (x4 : Int32) (h : hp_H) : Option (Int32 × hp_H) :=
  if hp_o h x0 2 = true then
  bX2_addRow_6 x0 x1 x2 x4 hp_n (0 : Int64) (0 : Int32) h
  else none
theorem inX2_addRow_X2 : ∀ w ∈ wsX20, w ∈ wsX2_addRow := by decide +kernel
theorem lkX2_addRow_f15 : Cond.fieldLink RX2 15 (TX2 1).1 (TX2 1).2.1 (TX2 1).2.2.1 ∈ wsX2_addRow := by decide +kernel
theorem lkX2_addRow_f9 : Cond.fieldLink RX2 9 (TX2 0).1 (TX2 0).2.1 (TX2 0).2.2.1 ∈ wsX2_addRow := by decide +kernel
theorem lkX2_addRow_c32 : Cond.constant RX2 32 (1073741823) ∈ wsX2_addRow := by decide +kernel
theorem ndX2_addRow : yX2_addRow.cls ≠ "java/lang/invoke/MethodHandle" ∧ yX2_addRow.cls ≠ "java/lang/invoke/VarHandle" ∧ (parseMethodDescriptor yX2_addRow.desc).map (fun d => d.parameters.length) = some 3 := by decide +kernel
set_option maxRecDepth 100000 in
set_option maxHeartbeats 4000000 in
theorem wX2_addRow_6 {p : Program} {l : Launch} {e : Env} {s : State} {m : MethodId} {args : Array Value} {below : List Frame} {meth : Method} {c : Code} {G : hp_G} {h0 h' : hp_H} {r : Int32} (X : hp_X p s m args meth c cX2_addRow 10 RX2 wsX2_addRow (some .int) G)  {x0 : Nat} {x1 : Nat} {x2 : Int64} {x4 : Int32}   : ∀ (n : Nat) {x5 : Int64} {x7 : Int32} {h : hp_H} {H : Heap} {locs : List Loc} {ls : Array Slot} (Y : hp_Y G h h0 s H locs) (hl : lv_has ls 10 [(0, .ref x0), (1, .ref x1), (2, .long x2), (4, .int x4), (5, .long x5), (7, .int x7)]) (hF : bX2_addRow_6 x0 x1 x2 x4 n x5 x7 h = some (r, h')), W p l e rmX2_addRow s m args below meth c H locs 0 0 (MQ below (va_Qi (fun r' u => r' = r ∧ u = h') (hp_B G h0) (hp_A h0)) args s 0 0 (hp_A h0)) (F0 m 6 ls []) := by
  intro n
  induction n with
  | zero =>
    intro x5 x7 h H locs ls Y hl hF
    exact absurd (show none = some _ from hF) (by simp)
  | succ n ih =>
    intro x5 x7 h H locs ls Y hl hF
    rw [bX2_addRow_6] at hF
    refine lv_iload X.1 X.2.1 dX2_addRow_6 (lv_at hl 5 rfl) ?_
    refine lv_aload_n X.1 X.2.1 dX2_addRow_8 rfl (lv_at hl 1 rfl) ?_
    obtain ⟨v1, e2, hF⟩ := hp_b hF
    refine hp_geti X Y (C := RX2) (T := TX2) (N := 2) (ci := 2) (k := 1) rfl inX2_addRow_X2 (by decide) lkX2_addRow_f15 e2 dX2_addRow_9 ?_
    refine lv_icmp_ge (tgt := 71) X.1 X.2.1 dX2_addRow_12 (by decide) (fun c3 => ?_) (fun c3 => ?_)
    · have hF := hp_ifp (c3) hF
      refine lv_lload X.1 X.2.1 dX2_addRow_71 (lv_at hl 4 rfl) ?_
      refine lv_l2i (v := Int64.toInt32 x5) X.1 X.2.1 dX2_addRow_73 rfl ?_
      cases hF
      exact hp_ri X Y rfl rfl dX2_addRow_74
    · have hF := hp_ifn (c3) hF
      refine lv_lload_n X.1 X.2.1 dX2_addRow_15 rfl (lv_at hl 2 rfl) ?_
      refine lv_aload_n X.1 X.2.1 dX2_addRow_16 rfl (lv_at hl 1 rfl) ?_
      obtain ⟨v4, e5, hF⟩ := hp_b hF
      refine hp_getr X Y (C := RX2) (T := TX2) (N := 2) (ci := 2) (k := 0) rfl inX2_addRow_X2 (by decide) lkX2_addRow_f9 e5 dX2_addRow_17 ?_
      refine lv_iload X.1 X.2.1 dX2_addRow_20 (lv_at hl 5 rfl) ?_
      obtain ⟨v6, e7, hF⟩ := hp_b hF
      refine hp_iald X Y e7 dX2_addRow_22 ?_
      refine lv_i2l (v := Int32.toInt64 v6) X.1 X.2.1 dX2_addRow_23 rfl ?_
      refine lv_lmul X.1 X.2.1 dX2_addRow_24 ?_
      refine lv_aload_n X.1 X.2.1 dX2_addRow_25 rfl (lv_at hl 0 rfl) ?_
      obtain ⟨v8, e9, hF⟩ := hp_b hF
      refine hp_getr X Y (C := RX2) (T := TX2) (N := 2) (ci := 2) (k := 0) rfl inX2_addRow_X2 (by decide) lkX2_addRow_f9 e9 dX2_addRow_26 ?_
      refine lv_iload X.1 X.2.1 dX2_addRow_29 (lv_at hl 3 rfl) ?_
      refine lv_iload X.1 X.2.1 dX2_addRow_31 (lv_at hl 5 rfl) ?_
      refine lv_iadd X.1 X.2.1 dX2_addRow_33 ?_
      obtain ⟨v10, e11, hF⟩ := hp_b hF
      refine hp_iald X Y e11 dX2_addRow_34 ?_
      refine lv_i2l (v := Int32.toInt64 v10) X.1 X.2.1 dX2_addRow_35 rfl ?_
      refine lv_ladd X.1 X.2.1 dX2_addRow_36 ?_
      refine lv_lload X.1 X.2.1 dX2_addRow_37 (lv_at hl 4 rfl) ?_
      refine lv_ladd X.1 X.2.1 dX2_addRow_39 ?_
      obtain ⟨v12, e13, hF⟩ := hp_b hF
      refine hp_tj (Option.some.inj e13) ?_
      refine lv_lstore (lv' := [(8, .long v12), (0, .ref x0), (1, .ref x1), (2, .long x2), (4, .int x4), (5, .long x5), (7, .int x7)]) X.1 X.2.1 dX2_addRow_40 hl (by decide) rfl (fun ls hl => ?_)
      refine lv_aload_n X.1 X.2.1 dX2_addRow_42 rfl (lv_at hl 1 rfl) ?_
      obtain ⟨v14, e15, hF⟩ := hp_b hF
      refine hp_getr X Y (C := RX2) (T := TX2) (N := 2) (ci := 2) (k := 0) rfl inX2_addRow_X2 (by decide) lkX2_addRow_f9 e15 dX2_addRow_43 ?_
      refine lv_iload X.1 X.2.1 dX2_addRow_46 (lv_at hl 4 rfl) ?_
      refine lv_iload X.1 X.2.1 dX2_addRow_48 (lv_at hl 6 rfl) ?_
      refine lv_iadd X.1 X.2.1 dX2_addRow_50 ?_
      refine lv_lload X.1 X.2.1 dX2_addRow_51 (lv_at hl 0 rfl) ?_
      refine lv_l2i (v := Int64.toInt32 v12) X.1 X.2.1 dX2_addRow_53 rfl ?_
      refine lv_ldc (v := 1073741823) X.1 X.2.1 X.2.2.2.1 (X.2.2.2.2.1 _ lkX2_addRow_c32) dX2_addRow_54 ?_
      refine lv_iand X.1 X.2.1 dX2_addRow_56 ?_
      obtain ⟨h16, e17, hF⟩ := hp_b hF
      refine hp_iast X Y e17 dX2_addRow_57 (fun H locs Y => ?_)
      refine lv_lload X.1 X.2.1 dX2_addRow_58 (lv_at hl 0 rfl) ?_
      refine lv_bipush (v := 30) X.1 X.2.1 dX2_addRow_60 (by decide) ?_
      refine lv_lushr (v := hp_lushr v12 (30 : Int32)) X.1 X.2.1 dX2_addRow_62 rfl ?_
      obtain ⟨v18, e19, hF⟩ := hp_b hF
      refine hp_tj (Option.some.inj e19) ?_
      refine lv_lstore (lv' := [(5, .long v18), (8, .long v12), (0, .ref x0), (1, .ref x1), (2, .long x2), (4, .int x4), (7, .int x7)]) X.1 X.2.1 dX2_addRow_63 hl (by decide) rfl (fun ls hl => ?_)
      obtain ⟨v20, e21, hF⟩ := hp_b hF
      refine lv_iinc (v := v20) (lv' := [(7, .int v20), (5, .long v18), (8, .long v12), (0, .ref x0), (1, .ref x1), (2, .long x2), (4, .int x4)]) X.1 X.2.1 dX2_addRow_65 hl (k := 6) rfl (Option.some.inj e21) (by decide) rfl (fun ls hl => ?_)
      refine lv_goto (tgt := 6) X.1 X.2.1 dX2_addRow_68 (by decide) ?_
      exact ih Y (lv_sub hl [3, 4, 5, 6, 1, 0] rfl) hF
theorem oX2_addRow {x0 : Nat} {x1 : Nat} {x2 : Int64} {x4 : Int32} {h h' : hp_H} {r : Int32} (hF : fX2_addRow x0 x1 x2 x4 h = some (r, h')) : hp_o h x0 2 = true := by
  unfold fX2_addRow at hF
  exact (hp_ift hF).1
set_option maxRecDepth 100000 in
set_option maxHeartbeats 4000000 in
theorem mX2_addRow (l : Launch) (G : hp_G) {x0 : Nat} {x1 : Nat} {x2 : Int64} {x4 : Int32} {h h' : hp_H} {r : Int32} (hF : fX2_addRow x0 x1 x2 x4 h = some (r, h')) : Met l yX2_addRow wsX2_addRow rmX2_addRow (va_Pc [.ref x0, .ref x1, .long x2, .int x4] (hp_S G h)) (va_Qi (fun r' u => r' = r ∧ u = h') (hp_B G h) (hp_A h)) 0 0 (hp_A h) := by
  refine hp_met (cc := cX2_addRow) (nL := 10) (ret := (some .int)) (by decide) rfl ?_
  intro p e s m below meth c X Y
  have hl := lv_entry ([.ref x0, .ref x1, .long x2, .int x4]) (n := 10) (Nat.le_of_ble_eq_true rfl)
  rw [lg_entry_eq]
  generalize (lg_sl ([.ref x0, .ref x1, .long x2, .int x4]) ++ List.replicate (10 - (lg_sl ([.ref x0, .ref x1, .long x2, .int x4])).length) Slot.unset).toArray = ls at hl ⊢
  have hl : lv_has ls 10 [(0, .ref x0), (1, .ref x1), (2, .long x2), (4, .int x4)] := hl
  unfold fX2_addRow at hF
  obtain ⟨ho, hF⟩ := hp_ift hF
  refine lv_lconst (v := 0) X.1 X.2.1 dX2_addRow_0 (by decide) ?_
  refine lv_lstore (lv' := [(5, .long (0 : Int64)), (0, .ref x0), (1, .ref x1), (2, .long x2), (4, .int x4)]) X.1 X.2.1 dX2_addRow_1 hl (by decide) rfl (fun ls hl => ?_)
  refine lv_iconst (v := 0) X.1 X.2.1 dX2_addRow_3 (by decide) ?_
  refine lv_istore (lv' := [(7, .int (0 : Int32)), (5, .long (0 : Int64)), (0, .ref x0), (1, .ref x1), (2, .long x2), (4, .int x4)]) X.1 X.2.1 dX2_addRow_4 hl (by decide) rfl (fun ls hl => ?_)
  exact wX2_addRow_6 X  hp_n Y (lv_sub hl [2, 3, 4, 5, 1, 0] rfl) hF

/-! WholeNumbers$Natural.takeProduct -/
def rmX2_takeProduct : Room := { frames := 2, cells := 0, slots := 0, locals := 43 }
def bX2_takeProduct_97  (x0 : Nat) (x3 : Int32)  (h : hp_H) : Option hp_H :=
  (fX2_trim x0 x3 h).bind fun h2 =>
  some h2
def bX2_takeProduct_42  (x0 : Nat) (x1 : Nat) (x2 : Nat) (x3 : Int32) : Nat → Int32 → hp_H → Option hp_H
  | 0, _, _ => none
  | n + 1, x4, h =>
  (hp_gi h x1 2 1).bind fun v1 =>
  if v1 ≤ x4 then (
    bX2_takeProduct_97 x0 x3 h)
  else (
    (hp_gi h x2 2 1).bind fun v4 =>
    if (140 : Int32) ≤ (x4 + v4) then (
      bX2_takeProduct_97 x0 x3 h)
    else (
      (hp_gr h x0 2 0).bind fun v7 =>
      (hp_gi h x2 2 1).bind fun v9 =>
      (hp_gr h x1 2 0).bind fun v11 =>
      (hp_ai h 0 v11 x4).bind fun v13 =>
      (fX2_addRow x0 x2 (Int32.toInt64 v13) x4 h).bind fun (v17, h16) =>
      (hp_si h16 0 v7 (x4 + v9) v17).bind fun h19 =>
      (some (x4 + (1 : Int32))).bind fun v21 =>
      bX2_takeProduct_42 x0 x1 x2 x3 n v21 h19))
def bX2_takeProduct_19  (x0 : Nat) (x1 : Nat) (x2 : Nat) (x3 : Int32) : Nat → Int32 → hp_H → Option hp_H
  | 0, _, _ => none
  | n + 1, x4, h =>
  if x3 ≤ x4 then (
    bX2_takeProduct_42 x0 x1 x2 x3 hp_n (0 : Int32) h)
  else (
    (hp_gr h x0 2 0).bind fun v2 =>
    (hp_si h 0 v2 x4 (0 : Int32)).bind fun h4 =>
    (some (x4 + (1 : Int32))).bind fun v6 =>
    bX2_takeProduct_19 x0 x1 x2 x3 n v6 h4)
def fX2_takeProduct (x0 : Nat) (x1 : Nat) (x2 : Nat) (h : hp_H) : Option hp_H :=
  if hp_o h x0 2 = true then
  (hp_gi h x1 2 1).bind fun v1 =>
  (hp_gi h x2 2 1).bind fun v3 =>
  (some (hp_min (v1 + v3) (140 : Int32))).bind fun v5 =>
  bX2_takeProduct_19 x0 x1 x2 v5 hp_n (0 : Int32) h
  else none
theorem inX2_takeProduct_X2 : ∀ w ∈ wsX20, w ∈ wsX2_takeProduct := by decide +kernel
theorem lkX2_takeProduct_f15 : Cond.fieldLink RX2 15 (TX2 1).1 (TX2 1).2.1 (TX2 1).2.2.1 ∈ wsX2_takeProduct := by decide +kernel
theorem lkX2_takeProduct_f9 : Cond.fieldLink RX2 9 (TX2 0).1 (TX2 0).2.1 (TX2 0).2.2.1 ∈ wsX2_takeProduct := by decide +kernel
theorem lkX2_takeProduct_m43 : Cond.methodLink RX2 43 Lib.Math.min.name ∈ wsX2_takeProduct := by decide +kernel
theorem lkX2_takeProduct_ms_min : Cond.static Lib.Math.min.name ∈ wsX2_takeProduct := by decide +kernel
theorem lkX2_takeProduct_mi : Cond.initialized "java/lang/Math" ∈ wsX2_takeProduct := by decide +kernel
theorem lkX2_takeProduct_mc_min : Cond.code Lib.Math.min.name Lib.Math.min.code 2 (some .int) ∈ wsX2_takeProduct := by decide +kernel
theorem ndX2_takeProduct : yX2_takeProduct.cls ≠ "java/lang/invoke/MethodHandle" ∧ yX2_takeProduct.cls ≠ "java/lang/invoke/VarHandle" ∧ (parseMethodDescriptor yX2_takeProduct.desc).map (fun d => d.parameters.length) = some 2 := by decide +kernel
set_option maxRecDepth 100000 in
set_option maxHeartbeats 4000000 in
theorem wX2_takeProduct_97 {p : Program} {l : Launch} {e : Env} {s : State} {m : MethodId} {args : Array Value} {below : List Frame} {meth : Method} {c : Code} {G : hp_G} {h0 h' : hp_H}  (X : hp_X p s m args meth c cX2_takeProduct 5 RX2 wsX2_takeProduct none G)  {x0 : Nat} {x3 : Int32}   {h : hp_H} {H : Heap} {locs : List Loc} {ls : Array Slot} (Y : hp_Y G h h0 s H locs) (hl : lv_has ls 5 [(0, .ref x0), (3, .int x3)]) (hF : bX2_takeProduct_97 x0 x3 h = some h') : W p l e rmX2_takeProduct s m args below meth c H locs 0 0 (MQ below (va_Qv (fun u => u = h') (hp_B G h0) (hp_A h0)) args s 0 0 (hp_A h0)) (F0 m 97 ls []) := by
  unfold bX2_takeProduct_97 at hF
  refine lv_aload_n X.1 X.2.1 dX2_takeProduct_97 rfl (lv_at hl 0 rfl) ?_
  refine lv_iload_n X.1 X.2.1 dX2_takeProduct_98 rfl (lv_at hl 1 rfl) ?_
  obtain ⟨h2, e1, hF⟩ := hp_b hF
  refine hp_cv Y (hp_runV X Y (ci := 2) (As := [.int x3]) (n := 1) (T := TX2) (N := 2) (mX2_trim l G e1) rfl (oX2_trim e1) gX2_takeProduct_X2_trim rfl rfl rfl ndX2_trim ⟨Nat.le_of_ble_eq_true rfl, Nat.le_of_ble_eq_true rfl⟩ rfl hl.1 rfl (Nat.le_of_ble_eq_true rfl) dX2_takeProduct_99 ⟨Nat.zero_le _, Nat.zero_le _⟩) (fun H locs Y => ?_)
  cases hF
  exact hp_rv X Y rfl dX2_takeProduct_102
set_option maxRecDepth 100000 in
set_option maxHeartbeats 4000000 in
theorem wX2_takeProduct_42 {p : Program} {l : Launch} {e : Env} {s : State} {m : MethodId} {args : Array Value} {below : List Frame} {meth : Method} {c : Code} {G : hp_G} {h0 h' : hp_H}  (X : hp_X p s m args meth c cX2_takeProduct 5 RX2 wsX2_takeProduct none G)  {x0 : Nat} {x1 : Nat} {x2 : Nat} {x3 : Int32}   : ∀ (n : Nat) {x4 : Int32} {h : hp_H} {H : Heap} {locs : List Loc} {ls : Array Slot} (Y : hp_Y G h h0 s H locs) (hl : lv_has ls 5 [(0, .ref x0), (1, .ref x1), (2, .ref x2), (3, .int x3), (4, .int x4)]) (hF : bX2_takeProduct_42 x0 x1 x2 x3 n x4 h = some h'), W p l e rmX2_takeProduct s m args below meth c H locs 0 0 (MQ below (va_Qv (fun u => u = h') (hp_B G h0) (hp_A h0)) args s 0 0 (hp_A h0)) (F0 m 42 ls []) := by
  intro n
  induction n with
  | zero =>
    intro x4 h H locs ls Y hl hF
    exact absurd (show none = some _ from hF) (by simp)
  | succ n ih =>
    intro x4 h H locs ls Y hl hF
    rw [bX2_takeProduct_42] at hF
    refine lv_iload X.1 X.2.1 dX2_takeProduct_42 (lv_at hl 4 rfl) ?_
    refine lv_aload_n X.1 X.2.1 dX2_takeProduct_44 rfl (lv_at hl 1 rfl) ?_
    obtain ⟨v1, e2, hF⟩ := hp_b hF
    refine hp_geti X Y (C := RX2) (T := TX2) (N := 2) (ci := 2) (k := 1) rfl inX2_takeProduct_X2 (by decide) lkX2_takeProduct_f15 e2 dX2_takeProduct_45 ?_
    refine lv_icmp_ge (tgt := 97) X.1 X.2.1 dX2_takeProduct_48 (by decide) (fun c3 => ?_) (fun c3 => ?_)
    · have hF := hp_ifp (c3) hF
      exact wX2_takeProduct_97 X  Y (lv_sub hl [0, 3] rfl) hF
    · have hF := hp_ifn (c3) hF
      refine lv_iload X.1 X.2.1 dX2_takeProduct_51 (lv_at hl 4 rfl) ?_
      refine lv_aload_n X.1 X.2.1 dX2_takeProduct_53 rfl (lv_at hl 2 rfl) ?_
      obtain ⟨v4, e5, hF⟩ := hp_b hF
      refine hp_geti X Y (C := RX2) (T := TX2) (N := 2) (ci := 2) (k := 1) rfl inX2_takeProduct_X2 (by decide) lkX2_takeProduct_f15 e5 dX2_takeProduct_54 ?_
      refine lv_iadd X.1 X.2.1 dX2_takeProduct_57 ?_
      refine lv_sipush (v := 140) X.1 X.2.1 dX2_takeProduct_58 (by decide) ?_
      refine lv_icmp_ge (tgt := 97) X.1 X.2.1 dX2_takeProduct_61 (by decide) (fun c6 => ?_) (fun c6 => ?_)
      · have hF := hp_ifp (c6) hF
        exact wX2_takeProduct_97 X  Y (lv_sub hl [0, 3] rfl) hF
      · have hF := hp_ifn (c6) hF
        refine lv_aload_n X.1 X.2.1 dX2_takeProduct_64 rfl (lv_at hl 0 rfl) ?_
        obtain ⟨v7, e8, hF⟩ := hp_b hF
        refine hp_getr X Y (C := RX2) (T := TX2) (N := 2) (ci := 2) (k := 0) rfl inX2_takeProduct_X2 (by decide) lkX2_takeProduct_f9 e8 dX2_takeProduct_65 ?_
        refine lv_iload X.1 X.2.1 dX2_takeProduct_68 (lv_at hl 4 rfl) ?_
        refine lv_aload_n X.1 X.2.1 dX2_takeProduct_70 rfl (lv_at hl 2 rfl) ?_
        obtain ⟨v9, e10, hF⟩ := hp_b hF
        refine hp_geti X Y (C := RX2) (T := TX2) (N := 2) (ci := 2) (k := 1) rfl inX2_takeProduct_X2 (by decide) lkX2_takeProduct_f15 e10 dX2_takeProduct_71 ?_
        refine lv_iadd X.1 X.2.1 dX2_takeProduct_74 ?_
        refine lv_aload_n X.1 X.2.1 dX2_takeProduct_75 rfl (lv_at hl 0 rfl) ?_
        refine lv_aload_n X.1 X.2.1 dX2_takeProduct_76 rfl (lv_at hl 2 rfl) ?_
        refine lv_aload_n X.1 X.2.1 dX2_takeProduct_77 rfl (lv_at hl 1 rfl) ?_
        obtain ⟨v11, e12, hF⟩ := hp_b hF
        refine hp_getr X Y (C := RX2) (T := TX2) (N := 2) (ci := 2) (k := 0) rfl inX2_takeProduct_X2 (by decide) lkX2_takeProduct_f9 e12 dX2_takeProduct_78 ?_
        refine lv_iload X.1 X.2.1 dX2_takeProduct_81 (lv_at hl 4 rfl) ?_
        obtain ⟨v13, e14, hF⟩ := hp_b hF
        refine hp_iald X Y e14 dX2_takeProduct_83 ?_
        refine lv_i2l (v := Int32.toInt64 v13) X.1 X.2.1 dX2_takeProduct_84 rfl ?_
        refine lv_iload X.1 X.2.1 dX2_takeProduct_85 (lv_at hl 4 rfl) ?_
        obtain ⟨⟨v17, h16⟩, e15, hF⟩ := hp_b hF
        refine hp_ci Y (hp_runV X Y (ci := 2) (As := [.ref x2, .long (Int32.toInt64 v13), .int x4]) (n := 3) (T := TX2) (N := 2) (mX2_addRow l G e15) rfl (oX2_addRow e15) gX2_takeProduct_X2_addRow rfl rfl rfl ndX2_addRow ⟨Nat.le_of_ble_eq_true rfl, Nat.le_of_ble_eq_true rfl⟩ rfl hl.1 rfl (Nat.le_of_ble_eq_true rfl) dX2_takeProduct_87 ⟨Nat.zero_le _, Nat.zero_le _⟩) (fun H locs Y => ?_)
        obtain ⟨h19, e20, hF⟩ := hp_b hF
        refine hp_iast X Y e20 dX2_takeProduct_90 (fun H locs Y => ?_)
        obtain ⟨v21, e22, hF⟩ := hp_b hF
        refine lv_iinc (v := v21) (lv' := [(4, .int v21), (0, .ref x0), (1, .ref x1), (2, .ref x2), (3, .int x3)]) X.1 X.2.1 dX2_takeProduct_91 hl (k := 4) rfl (Option.some.inj e22) (by decide) rfl (fun ls hl => ?_)
        refine lv_goto (tgt := 42) X.1 X.2.1 dX2_takeProduct_94 (by decide) ?_
        exact ih Y (lv_sub hl [1, 2, 3, 4, 0] rfl) hF
set_option maxRecDepth 100000 in
set_option maxHeartbeats 4000000 in
theorem wX2_takeProduct_19 {p : Program} {l : Launch} {e : Env} {s : State} {m : MethodId} {args : Array Value} {below : List Frame} {meth : Method} {c : Code} {G : hp_G} {h0 h' : hp_H}  (X : hp_X p s m args meth c cX2_takeProduct 5 RX2 wsX2_takeProduct none G)  {x0 : Nat} {x1 : Nat} {x2 : Nat} {x3 : Int32}   : ∀ (n : Nat) {x4 : Int32} {h : hp_H} {H : Heap} {locs : List Loc} {ls : Array Slot} (Y : hp_Y G h h0 s H locs) (hl : lv_has ls 5 [(0, .ref x0), (1, .ref x1), (2, .ref x2), (3, .int x3), (4, .int x4)]) (hF : bX2_takeProduct_19 x0 x1 x2 x3 n x4 h = some h'), W p l e rmX2_takeProduct s m args below meth c H locs 0 0 (MQ below (va_Qv (fun u => u = h') (hp_B G h0) (hp_A h0)) args s 0 0 (hp_A h0)) (F0 m 19 ls []) := by
  intro n
  induction n with
  | zero =>
    intro x4 h H locs ls Y hl hF
    exact absurd (show none = some _ from hF) (by simp)
  | succ n ih =>
    intro x4 h H locs ls Y hl hF
    rw [bX2_takeProduct_19] at hF
    refine lv_iload X.1 X.2.1 dX2_takeProduct_19 (lv_at hl 4 rfl) ?_
    refine lv_iload_n X.1 X.2.1 dX2_takeProduct_21 rfl (lv_at hl 3 rfl) ?_
    refine lv_icmp_ge (tgt := 39) X.1 X.2.1 dX2_takeProduct_22 (by decide) (fun c1 => ?_) (fun c1 => ?_)
    · have hF := hp_ifp (c1) hF
      refine lv_iconst (v := 0) X.1 X.2.1 dX2_takeProduct_39 (by decide) ?_
      refine lv_istore (lv' := [(4, .int (0 : Int32)), (0, .ref x0), (1, .ref x1), (2, .ref x2), (3, .int x3)]) X.1 X.2.1 dX2_takeProduct_40 hl (by decide) rfl (fun ls hl => ?_)
      exact wX2_takeProduct_42 X  hp_n Y (lv_sub hl [1, 2, 3, 4, 0] rfl) hF
    · have hF := hp_ifn (c1) hF
      refine lv_aload_n X.1 X.2.1 dX2_takeProduct_25 rfl (lv_at hl 0 rfl) ?_
      obtain ⟨v2, e3, hF⟩ := hp_b hF
      refine hp_getr X Y (C := RX2) (T := TX2) (N := 2) (ci := 2) (k := 0) rfl inX2_takeProduct_X2 (by decide) lkX2_takeProduct_f9 e3 dX2_takeProduct_26 ?_
      refine lv_iload X.1 X.2.1 dX2_takeProduct_29 (lv_at hl 4 rfl) ?_
      refine lv_iconst (v := 0) X.1 X.2.1 dX2_takeProduct_31 (by decide) ?_
      obtain ⟨h4, e5, hF⟩ := hp_b hF
      refine hp_iast X Y e5 dX2_takeProduct_32 (fun H locs Y => ?_)
      obtain ⟨v6, e7, hF⟩ := hp_b hF
      refine lv_iinc (v := v6) (lv' := [(4, .int v6), (0, .ref x0), (1, .ref x1), (2, .ref x2), (3, .int x3)]) X.1 X.2.1 dX2_takeProduct_33 hl (k := 4) rfl (Option.some.inj e7) (by decide) rfl (fun ls hl => ?_)
      refine lv_goto (tgt := 19) X.1 X.2.1 dX2_takeProduct_36 (by decide) ?_
      exact ih Y (lv_sub hl [1, 2, 3, 4, 0] rfl) hF
theorem oX2_takeProduct {x0 : Nat} {x1 : Nat} {x2 : Nat} {h h' : hp_H}  (hF : fX2_takeProduct x0 x1 x2 h = some h') : hp_o h x0 2 = true := by
  unfold fX2_takeProduct at hF
  exact (hp_ift hF).1
set_option maxRecDepth 100000 in
set_option maxHeartbeats 4000000 in
theorem mX2_takeProduct (l : Launch) (G : hp_G) {x0 : Nat} {x1 : Nat} {x2 : Nat} {h h' : hp_H}  (hF : fX2_takeProduct x0 x1 x2 h = some h') : Met l yX2_takeProduct wsX2_takeProduct rmX2_takeProduct (va_Pc [.ref x0, .ref x1, .ref x2] (hp_S G h)) (va_Qv (fun u => u = h') (hp_B G h) (hp_A h)) 0 0 (hp_A h) := by
  refine hp_met (cc := cX2_takeProduct) (nL := 5) (ret := none) (by decide) rfl ?_
  intro p e s m below meth c X Y
  have hl := lv_entry ([.ref x0, .ref x1, .ref x2]) (n := 5) (Nat.le_of_ble_eq_true rfl)
  rw [lg_entry_eq]
  generalize (lg_sl ([.ref x0, .ref x1, .ref x2]) ++ List.replicate (5 - (lg_sl ([.ref x0, .ref x1, .ref x2])).length) Slot.unset).toArray = ls at hl ⊢
  have hl : lv_has ls 5 [(0, .ref x0), (1, .ref x1), (2, .ref x2)] := hl
  unfold fX2_takeProduct at hF
  obtain ⟨ho, hF⟩ := hp_ift hF
  refine lv_aload_n X.1 X.2.1 dX2_takeProduct_0 rfl (lv_at hl 1 rfl) ?_
  obtain ⟨v1, e2, hF⟩ := hp_b hF
  refine hp_geti X Y (C := RX2) (T := TX2) (N := 2) (ci := 2) (k := 1) rfl inX2_takeProduct_X2 (by decide) lkX2_takeProduct_f15 e2 dX2_takeProduct_1 ?_
  refine lv_aload_n X.1 X.2.1 dX2_takeProduct_4 rfl (lv_at hl 2 rfl) ?_
  obtain ⟨v3, e4, hF⟩ := hp_b hF
  refine hp_geti X Y (C := RX2) (T := TX2) (N := 2) (ci := 2) (k := 1) rfl inX2_takeProduct_X2 (by decide) lkX2_takeProduct_f15 e4 dX2_takeProduct_5 ?_
  refine lv_iadd X.1 X.2.1 dX2_takeProduct_8 ?_
  refine lv_sipush (v := 140) X.1 X.2.1 dX2_takeProduct_9 (by decide) ?_
  refine va_mmin X.1 X.2.1 (X.2.2.1.trans hl.1.symm) X.2.2.2.1 (X.2.2.2.2.1 _ lkX2_takeProduct_m43) (X.2.2.2.2.1 _ lkX2_takeProduct_ms_min) (X.2.2.2.2.1 _ lkX2_takeProduct_mi) (X.2.2.2.2.1 _ lkX2_takeProduct_mc_min) (Nat.le_of_ble_eq_true rfl) (Nat.le_of_ble_eq_true rfl) (Nat.zero_le _) (Nat.zero_le _) dX2_takeProduct_12 ?_
  obtain ⟨v5, e6, hF⟩ := hp_b hF
  refine hp_ti (Option.some.inj e6) ?_
  refine lv_istore_n (lv' := [(3, .int v5), (0, .ref x0), (1, .ref x1), (2, .ref x2)]) X.1 X.2.1 dX2_takeProduct_15 rfl hl (by decide) rfl (fun ls hl => ?_)
  refine lv_iconst (v := 0) X.1 X.2.1 dX2_takeProduct_16 (by decide) ?_
  refine lv_istore (lv' := [(4, .int (0 : Int32)), (3, .int v5), (0, .ref x0), (1, .ref x1), (2, .ref x2)]) X.1 X.2.1 dX2_takeProduct_17 hl (by decide) rfl (fun ls hl => ?_)
  exact wX2_takeProduct_19 X  hp_n Y (lv_sub hl [2, 3, 4, 1, 0] rfl) hF

/-! WholeNumbers$Natural.shiftUp -/
def rmX2_shiftUp : Room := { frames := 2, cells := 0, slots := 0, locals := 43 }
def bX2_shiftUp_33  (x0 : Nat) (x1 : Nat) (x3 : Int32) (x4 : Int32) (x5 : Int32) : Nat → Int32 → hp_H → Option hp_H
  | 0, _, _ => none
  | n + 1, x6, h =>
  if x6 < 0 then (
    (fX2_trim x0 x5 h).bind fun h3 =>
    some h3)
  else (
    (some (x6 - x3)).bind fun v4 =>
    (hp_gr h x0 2 0).bind fun v6 =>
    (fX2_limb x1 v4 h).bind fun v9 =>
    (fX2_limb x1 (v4 - (1 : Int32)) h).bind fun v11 =>
    (hp_si h 0 v6 x6 (((hp_ishl v9 x4) ||| (hp_iushr v11 ((30 : Int32) - x4))) &&& (1073741823 : Int32))).bind fun h12 =>
    (some (x6 + (-1 : Int32))).bind fun v14 =>
    bX2_shiftUp_33 x0 x1 x3 x4 x5 n v14 h12)
def fX2_shiftUp (x0 : Nat) (x1 : Nat) (x2 : Int32) (h : hp_H) : Option hp_H :=
  if hp_o h x0 2 = true then
  (some (x2 / (30 : Int32))).bind fun v1 =>
  (some (hp_irem x2 (30 : Int32))).bind fun v3 =>
  (hp_gi h x1 2 1).bind fun v5 =>
  (some (hp_min ((v5 + v1) + (1 : Int32)) (140 : Int32))).bind fun v7 =>
  (some (v7 - (1 : Int32))).bind fun v9 =>
  bX2_shiftUp_33 x0 x1 v1 v3 v7 hp_n v9 h
  else none
theorem inX2_shiftUp_X2 : ∀ w ∈ wsX20, w ∈ wsX2_shiftUp := by decide +kernel
theorem lkX2_shiftUp_f9 : Cond.fieldLink RX2 9 (TX2 0).1 (TX2 0).2.1 (TX2 0).2.2.1 ∈ wsX2_shiftUp := by decide +kernel
theorem lkX2_shiftUp_c32 : Cond.constant RX2 32 (1073741823) ∈ wsX2_shiftUp := by decide +kernel
theorem lkX2_shiftUp_f15 : Cond.fieldLink RX2 15 (TX2 1).1 (TX2 1).2.1 (TX2 1).2.2.1 ∈ wsX2_shiftUp := by decide +kernel
theorem lkX2_shiftUp_m43 : Cond.methodLink RX2 43 Lib.Math.min.name ∈ wsX2_shiftUp := by decide +kernel
theorem lkX2_shiftUp_ms_min : Cond.static Lib.Math.min.name ∈ wsX2_shiftUp := by decide +kernel
theorem lkX2_shiftUp_mi : Cond.initialized "java/lang/Math" ∈ wsX2_shiftUp := by decide +kernel
theorem lkX2_shiftUp_mc_min : Cond.code Lib.Math.min.name Lib.Math.min.code 2 (some .int) ∈ wsX2_shiftUp := by decide +kernel
theorem ndX2_shiftUp : yX2_shiftUp.cls ≠ "java/lang/invoke/MethodHandle" ∧ yX2_shiftUp.cls ≠ "java/lang/invoke/VarHandle" ∧ (parseMethodDescriptor yX2_shiftUp.desc).map (fun d => d.parameters.length) = some 2 := by decide +kernel
set_option maxRecDepth 100000 in
set_option maxHeartbeats 4000000 in
theorem wX2_shiftUp_33 {p : Program} {l : Launch} {e : Env} {s : State} {m : MethodId} {args : Array Value} {below : List Frame} {meth : Method} {c : Code} {G : hp_G} {h0 h' : hp_H}  (X : hp_X p s m args meth c cX2_shiftUp 8 RX2 wsX2_shiftUp none G)  {x0 : Nat} {x1 : Nat} {x3 : Int32} {x4 : Int32} {x5 : Int32}   : ∀ (n : Nat) {x6 : Int32} {h : hp_H} {H : Heap} {locs : List Loc} {ls : Array Slot} (Y : hp_Y G h h0 s H locs) (hl : lv_has ls 8 [(0, .ref x0), (1, .ref x1), (3, .int x3), (4, .int x4), (5, .int x5), (6, .int x6)]) (hF : bX2_shiftUp_33 x0 x1 x3 x4 x5 n x6 h = some h'), W p l e rmX2_shiftUp s m args below meth c H locs 0 0 (MQ below (va_Qv (fun u => u = h') (hp_B G h0) (hp_A h0)) args s 0 0 (hp_A h0)) (F0 m 33 ls []) := by
  intro n
  induction n with
  | zero =>
    intro x6 h H locs ls Y hl hF
    exact absurd (show none = some _ from hF) (by simp)
  | succ n ih =>
    intro x6 h H locs ls Y hl hF
    rw [bX2_shiftUp_33] at hF
    refine lv_iload X.1 X.2.1 dX2_shiftUp_33 (lv_at hl 5 rfl) ?_
    refine lv_if_lt (tgt := 84) X.1 X.2.1 dX2_shiftUp_35 (by decide) (fun c1 => ?_) (fun c1 => ?_)
    · have hF := hp_ifp (c1) hF
      refine lv_aload_n X.1 X.2.1 dX2_shiftUp_84 rfl (lv_at hl 0 rfl) ?_
      refine lv_iload X.1 X.2.1 dX2_shiftUp_85 (lv_at hl 4 rfl) ?_
      obtain ⟨h3, e2, hF⟩ := hp_b hF
      refine hp_cv Y (hp_runV X Y (ci := 2) (As := [.int x5]) (n := 1) (T := TX2) (N := 2) (mX2_trim l G e2) rfl (oX2_trim e2) gX2_shiftUp_X2_trim rfl rfl rfl ndX2_trim ⟨Nat.le_of_ble_eq_true rfl, Nat.le_of_ble_eq_true rfl⟩ rfl hl.1 rfl (Nat.le_of_ble_eq_true rfl) dX2_shiftUp_87 ⟨Nat.zero_le _, Nat.zero_le _⟩) (fun H locs Y => ?_)
      cases hF
      exact hp_rv X Y rfl dX2_shiftUp_90
    · have hF := hp_ifn (c1) hF
      refine lv_iload X.1 X.2.1 dX2_shiftUp_38 (lv_at hl 5 rfl) ?_
      refine lv_iload_n X.1 X.2.1 dX2_shiftUp_40 rfl (lv_at hl 2 rfl) ?_
      refine lv_isub X.1 X.2.1 dX2_shiftUp_41 ?_
      obtain ⟨v4, e5, hF⟩ := hp_b hF
      refine hp_ti (Option.some.inj e5) ?_
      refine lv_istore (lv' := [(7, .int v4), (0, .ref x0), (1, .ref x1), (3, .int x3), (4, .int x4), (5, .int x5), (6, .int x6)]) X.1 X.2.1 dX2_shiftUp_42 hl (by decide) rfl (fun ls hl => ?_)
      refine lv_aload_n X.1 X.2.1 dX2_shiftUp_44 rfl (lv_at hl 1 rfl) ?_
      obtain ⟨v6, e7, hF⟩ := hp_b hF
      refine hp_getr X Y (C := RX2) (T := TX2) (N := 2) (ci := 2) (k := 0) rfl inX2_shiftUp_X2 (by decide) lkX2_shiftUp_f9 e7 dX2_shiftUp_45 ?_
      refine lv_iload X.1 X.2.1 dX2_shiftUp_48 (lv_at hl 6 rfl) ?_
      refine lv_aload_n X.1 X.2.1 dX2_shiftUp_50 rfl (lv_at hl 2 rfl) ?_
      refine lv_iload X.1 X.2.1 dX2_shiftUp_51 (lv_at hl 0 rfl) ?_
      obtain ⟨v9, e8, hF⟩ := hp_b hF
      refine hp_ci Y (hp_runV X Y (ci := 2) (As := [.int v4]) (n := 1) (T := TX2) (N := 2) (mX2_limb l G e8) rfl (oX2_limb e8) gX2_shiftUp_X2_limb rfl rfl rfl ndX2_limb ⟨Nat.le_of_ble_eq_true rfl, Nat.le_of_ble_eq_true rfl⟩ rfl hl.1 rfl (Nat.le_of_ble_eq_true rfl) dX2_shiftUp_53 ⟨Nat.zero_le _, Nat.zero_le _⟩) (fun H locs Y => ?_)
      refine lv_iload X.1 X.2.1 dX2_shiftUp_56 (lv_at hl 4 rfl) ?_
      refine lv_ishl X.1 X.2.1 dX2_shiftUp_58 ?_
      refine lv_aload_n X.1 X.2.1 dX2_shiftUp_59 rfl (lv_at hl 2 rfl) ?_
      refine lv_iload X.1 X.2.1 dX2_shiftUp_60 (lv_at hl 0 rfl) ?_
      refine lv_iconst (v := 1) X.1 X.2.1 dX2_shiftUp_62 (by decide) ?_
      refine lv_isub X.1 X.2.1 dX2_shiftUp_63 ?_
      obtain ⟨v11, e10, hF⟩ := hp_b hF
      refine hp_ci Y (hp_runV X Y (ci := 2) (As := [.int (v4 - (1 : Int32))]) (n := 1) (T := TX2) (N := 2) (mX2_limb l G e10) rfl (oX2_limb e10) gX2_shiftUp_X2_limb rfl rfl rfl ndX2_limb ⟨Nat.le_of_ble_eq_true rfl, Nat.le_of_ble_eq_true rfl⟩ rfl hl.1 rfl (Nat.le_of_ble_eq_true rfl) dX2_shiftUp_64 ⟨Nat.zero_le _, Nat.zero_le _⟩) (fun H locs Y => ?_)
      refine lv_bipush (v := 30) X.1 X.2.1 dX2_shiftUp_67 (by decide) ?_
      refine lv_iload X.1 X.2.1 dX2_shiftUp_69 (lv_at hl 4 rfl) ?_
      refine lv_isub X.1 X.2.1 dX2_shiftUp_71 ?_
      refine lv_iushr (v := hp_iushr v11 ((30 : Int32) - x4)) X.1 X.2.1 dX2_shiftUp_72 rfl ?_
      refine lv_ior X.1 X.2.1 dX2_shiftUp_73 ?_
      refine lv_ldc (v := 1073741823) X.1 X.2.1 X.2.2.2.1 (X.2.2.2.2.1 _ lkX2_shiftUp_c32) dX2_shiftUp_74 ?_
      refine lv_iand X.1 X.2.1 dX2_shiftUp_76 ?_
      obtain ⟨h12, e13, hF⟩ := hp_b hF
      refine hp_iast X Y e13 dX2_shiftUp_77 (fun H locs Y => ?_)
      obtain ⟨v14, e15, hF⟩ := hp_b hF
      refine lv_iinc (v := v14) (lv' := [(6, .int v14), (7, .int v4), (0, .ref x0), (1, .ref x1), (3, .int x3), (4, .int x4), (5, .int x5)]) X.1 X.2.1 dX2_shiftUp_78 hl (k := 6) rfl (Option.some.inj e15) (by decide) rfl (fun ls hl => ?_)
      refine lv_goto (tgt := 33) X.1 X.2.1 dX2_shiftUp_81 (by decide) ?_
      exact ih Y (lv_sub hl [2, 3, 4, 5, 6, 0] rfl) hF
theorem oX2_shiftUp {x0 : Nat} {x1 : Nat} {x2 : Int32} {h h' : hp_H}  (hF : fX2_shiftUp x0 x1 x2 h = some h') : hp_o h x0 2 = true := by
  unfold fX2_shiftUp at hF
  exact (hp_ift hF).1
set_option maxRecDepth 100000 in
set_option maxHeartbeats 4000000 in
theorem mX2_shiftUp (l : Launch) (G : hp_G) {x0 : Nat} {x1 : Nat} {x2 : Int32} {h h' : hp_H}  (hF : fX2_shiftUp x0 x1 x2 h = some h') : Met l yX2_shiftUp wsX2_shiftUp rmX2_shiftUp (va_Pc [.ref x0, .ref x1, .int x2] (hp_S G h)) (va_Qv (fun u => u = h') (hp_B G h) (hp_A h)) 0 0 (hp_A h) := by
  refine hp_met (cc := cX2_shiftUp) (nL := 8) (ret := none) (by decide) rfl ?_
  intro p e s m below meth c X Y
  have hl := lv_entry ([.ref x0, .ref x1, .int x2]) (n := 8) (Nat.le_of_ble_eq_true rfl)
  rw [lg_entry_eq]
  generalize (lg_sl ([.ref x0, .ref x1, .int x2]) ++ List.replicate (8 - (lg_sl ([.ref x0, .ref x1, .int x2])).length) Slot.unset).toArray = ls at hl ⊢
  have hl : lv_has ls 8 [(0, .ref x0), (1, .ref x1), (2, .int x2)] := hl
  unfold fX2_shiftUp at hF
  obtain ⟨ho, hF⟩ := hp_ift hF
  refine lv_iload_n X.1 X.2.1 dX2_shiftUp_0 rfl (lv_at hl 2 rfl) ?_
  refine lv_bipush (v := 30) X.1 X.2.1 dX2_shiftUp_1 (by decide) ?_
  refine lv_idiv X.1 X.2.1 dX2_shiftUp_3 (by decide) ?_
  obtain ⟨v1, e2, hF⟩ := hp_b hF
  refine hp_ti (Option.some.inj e2) ?_
  refine lv_istore_n (lv' := [(3, .int v1), (0, .ref x0), (1, .ref x1), (2, .int x2)]) X.1 X.2.1 dX2_shiftUp_4 rfl hl (by decide) rfl (fun ls hl => ?_)
  refine lv_iload_n X.1 X.2.1 dX2_shiftUp_5 rfl (lv_at hl 3 rfl) ?_
  refine lv_bipush (v := 30) X.1 X.2.1 dX2_shiftUp_6 (by decide) ?_
  refine lv_irem X.1 X.2.1 dX2_shiftUp_8 (by decide) ?_
  obtain ⟨v3, e4, hF⟩ := hp_b hF
  refine hp_ti (Option.some.inj e4) ?_
  refine lv_istore (lv' := [(4, .int v3), (3, .int v1), (0, .ref x0), (1, .ref x1), (2, .int x2)]) X.1 X.2.1 dX2_shiftUp_9 hl (by decide) rfl (fun ls hl => ?_)
  refine lv_aload_n X.1 X.2.1 dX2_shiftUp_11 rfl (lv_at hl 3 rfl) ?_
  obtain ⟨v5, e6, hF⟩ := hp_b hF
  refine hp_geti X Y (C := RX2) (T := TX2) (N := 2) (ci := 2) (k := 1) rfl inX2_shiftUp_X2 (by decide) lkX2_shiftUp_f15 e6 dX2_shiftUp_12 ?_
  refine lv_iload_n X.1 X.2.1 dX2_shiftUp_15 rfl (lv_at hl 1 rfl) ?_
  refine lv_iadd X.1 X.2.1 dX2_shiftUp_16 ?_
  refine lv_iconst (v := 1) X.1 X.2.1 dX2_shiftUp_17 (by decide) ?_
  refine lv_iadd X.1 X.2.1 dX2_shiftUp_18 ?_
  refine lv_sipush (v := 140) X.1 X.2.1 dX2_shiftUp_19 (by decide) ?_
  refine va_mmin X.1 X.2.1 (X.2.2.1.trans hl.1.symm) X.2.2.2.1 (X.2.2.2.2.1 _ lkX2_shiftUp_m43) (X.2.2.2.2.1 _ lkX2_shiftUp_ms_min) (X.2.2.2.2.1 _ lkX2_shiftUp_mi) (X.2.2.2.2.1 _ lkX2_shiftUp_mc_min) (Nat.le_of_ble_eq_true rfl) (Nat.le_of_ble_eq_true rfl) (Nat.zero_le _) (Nat.zero_le _) dX2_shiftUp_22 ?_
  obtain ⟨v7, e8, hF⟩ := hp_b hF
  refine hp_ti (Option.some.inj e8) ?_
  refine lv_istore (lv' := [(5, .int v7), (4, .int v3), (3, .int v1), (0, .ref x0), (1, .ref x1), (2, .int x2)]) X.1 X.2.1 dX2_shiftUp_25 hl (by decide) rfl (fun ls hl => ?_)
  refine lv_iload X.1 X.2.1 dX2_shiftUp_27 (lv_at hl 0 rfl) ?_
  refine lv_iconst (v := 1) X.1 X.2.1 dX2_shiftUp_29 (by decide) ?_
  refine lv_isub X.1 X.2.1 dX2_shiftUp_30 ?_
  obtain ⟨v9, e10, hF⟩ := hp_b hF
  refine hp_ti (Option.some.inj e10) ?_
  refine lv_istore (lv' := [(6, .int v9), (5, .int v7), (4, .int v3), (3, .int v1), (0, .ref x0), (1, .ref x1), (2, .int x2)]) X.1 X.2.1 dX2_shiftUp_31 hl (by decide) rfl (fun ls hl => ?_)
  exact wX2_shiftUp_33 X  hp_n Y (lv_sub hl [4, 5, 3, 2, 1, 0] rfl) hF

/-! WholeNumbers$Natural.shiftDown -/
def rmX2_shiftDown : Room := { frames := 2, cells := 0, slots := 0, locals := 44 }
def bX2_shiftDown_17  (x0 : Nat) (x1 : Nat) (x2 : Int32) (x3 : Int32) : Nat → Int32 → hp_H → Option hp_H
  | 0, _, _ => none
  | n + 1, x4, h =>
  if x3 ≤ x4 then (
    (fX2_trim x0 x3 h).bind fun h3 =>
    some h3)
  else (
    (hp_gr h x0 2 0).bind fun v4 =>
    (fX2_limbFrom x1 ((x4 * (30 : Int32)) + x2) h).bind fun v7 =>
    (hp_si h 0 v4 x4 v7).bind fun h8 =>
    (some (x4 + (1 : Int32))).bind fun v10 =>
    bX2_shiftDown_17 x0 x1 x2 x3 n v10 h8)
def fX2_shiftDown (x0 : Nat) (x1 : Nat) (x2 : Int32) (h : hp_H) : Option hp_H :=
  if hp_o h x0 2 = true then
  (hp_gi h x1 2 1).bind fun v1 =>
  (some (hp_max (v1 - (x2 / (30 : Int32))) (0 : Int32))).bind fun v3 =>
  bX2_shiftDown_17 x0 x1 x2 v3 hp_n (0 : Int32) h
  else none
theorem inX2_shiftDown_X2 : ∀ w ∈ wsX20, w ∈ wsX2_shiftDown := by decide +kernel
theorem lkX2_shiftDown_f9 : Cond.fieldLink RX2 9 (TX2 0).1 (TX2 0).2.1 (TX2 0).2.2.1 ∈ wsX2_shiftDown := by decide +kernel
theorem lkX2_shiftDown_f15 : Cond.fieldLink RX2 15 (TX2 1).1 (TX2 1).2.1 (TX2 1).2.2.1 ∈ wsX2_shiftDown := by decide +kernel
theorem lkX2_shiftDown_m49 : Cond.methodLink RX2 49 Lib.Math.max.name ∈ wsX2_shiftDown := by decide +kernel
theorem lkX2_shiftDown_ms_max : Cond.static Lib.Math.max.name ∈ wsX2_shiftDown := by decide +kernel
theorem lkX2_shiftDown_mi : Cond.initialized "java/lang/Math" ∈ wsX2_shiftDown := by decide +kernel
theorem lkX2_shiftDown_mc_max : Cond.code Lib.Math.max.name Lib.Math.max.code 2 (some .int) ∈ wsX2_shiftDown := by decide +kernel
theorem ndX2_shiftDown : yX2_shiftDown.cls ≠ "java/lang/invoke/MethodHandle" ∧ yX2_shiftDown.cls ≠ "java/lang/invoke/VarHandle" ∧ (parseMethodDescriptor yX2_shiftDown.desc).map (fun d => d.parameters.length) = some 2 := by decide +kernel
set_option maxRecDepth 100000 in
set_option maxHeartbeats 4000000 in
theorem wX2_shiftDown_17 {p : Program} {l : Launch} {e : Env} {s : State} {m : MethodId} {args : Array Value} {below : List Frame} {meth : Method} {c : Code} {G : hp_G} {h0 h' : hp_H}  (X : hp_X p s m args meth c cX2_shiftDown 5 RX2 wsX2_shiftDown none G)  {x0 : Nat} {x1 : Nat} {x2 : Int32} {x3 : Int32}   : ∀ (n : Nat) {x4 : Int32} {h : hp_H} {H : Heap} {locs : List Loc} {ls : Array Slot} (Y : hp_Y G h h0 s H locs) (hl : lv_has ls 5 [(0, .ref x0), (1, .ref x1), (2, .int x2), (3, .int x3), (4, .int x4)]) (hF : bX2_shiftDown_17 x0 x1 x2 x3 n x4 h = some h'), W p l e rmX2_shiftDown s m args below meth c H locs 0 0 (MQ below (va_Qv (fun u => u = h') (hp_B G h0) (hp_A h0)) args s 0 0 (hp_A h0)) (F0 m 17 ls []) := by
  intro n
  induction n with
  | zero =>
    intro x4 h H locs ls Y hl hF
    exact absurd (show none = some _ from hF) (by simp)
  | succ n ih =>
    intro x4 h H locs ls Y hl hF
    rw [bX2_shiftDown_17] at hF
    refine lv_iload X.1 X.2.1 dX2_shiftDown_17 (lv_at hl 4 rfl) ?_
    refine lv_iload_n X.1 X.2.1 dX2_shiftDown_19 rfl (lv_at hl 3 rfl) ?_
    refine lv_icmp_ge (tgt := 47) X.1 X.2.1 dX2_shiftDown_20 (by decide) (fun c1 => ?_) (fun c1 => ?_)
    · have hF := hp_ifp (c1) hF
      refine lv_aload_n X.1 X.2.1 dX2_shiftDown_47 rfl (lv_at hl 0 rfl) ?_
      refine lv_iload_n X.1 X.2.1 dX2_shiftDown_48 rfl (lv_at hl 3 rfl) ?_
      obtain ⟨h3, e2, hF⟩ := hp_b hF
      refine hp_cv Y (hp_runV X Y (ci := 2) (As := [.int x3]) (n := 1) (T := TX2) (N := 2) (mX2_trim l G e2) rfl (oX2_trim e2) gX2_shiftDown_X2_trim rfl rfl rfl ndX2_trim ⟨Nat.le_of_ble_eq_true rfl, Nat.le_of_ble_eq_true rfl⟩ rfl hl.1 rfl (Nat.le_of_ble_eq_true rfl) dX2_shiftDown_49 ⟨Nat.zero_le _, Nat.zero_le _⟩) (fun H locs Y => ?_)
      cases hF
      exact hp_rv X Y rfl dX2_shiftDown_52
    · have hF := hp_ifn (c1) hF
      refine lv_aload_n X.1 X.2.1 dX2_shiftDown_23 rfl (lv_at hl 0 rfl) ?_
      obtain ⟨v4, e5, hF⟩ := hp_b hF
      refine hp_getr X Y (C := RX2) (T := TX2) (N := 2) (ci := 2) (k := 0) rfl inX2_shiftDown_X2 (by decide) lkX2_shiftDown_f9 e5 dX2_shiftDown_24 ?_
      refine lv_iload X.1 X.2.1 dX2_shiftDown_27 (lv_at hl 4 rfl) ?_
      refine lv_aload_n X.1 X.2.1 dX2_shiftDown_29 rfl (lv_at hl 1 rfl) ?_
      refine lv_iload X.1 X.2.1 dX2_shiftDown_30 (lv_at hl 4 rfl) ?_
      refine lv_bipush (v := 30) X.1 X.2.1 dX2_shiftDown_32 (by decide) ?_
      refine lv_imul X.1 X.2.1 dX2_shiftDown_34 ?_
      refine lv_iload_n X.1 X.2.1 dX2_shiftDown_35 rfl (lv_at hl 2 rfl) ?_
      refine lv_iadd X.1 X.2.1 dX2_shiftDown_36 ?_
      obtain ⟨v7, e6, hF⟩ := hp_b hF
      refine hp_ci Y (hp_runV X Y (ci := 2) (As := [.int ((x4 * (30 : Int32)) + x2)]) (n := 1) (T := TX2) (N := 2) (mX2_limbFrom l G e6) rfl (oX2_limbFrom e6) gX2_shiftDown_X2_limbFrom rfl rfl rfl ndX2_limbFrom ⟨Nat.le_of_ble_eq_true rfl, Nat.le_of_ble_eq_true rfl⟩ rfl hl.1 rfl (Nat.le_of_ble_eq_true rfl) dX2_shiftDown_37 ⟨Nat.zero_le _, Nat.zero_le _⟩) (fun H locs Y => ?_)
      obtain ⟨h8, e9, hF⟩ := hp_b hF
      refine hp_iast X Y e9 dX2_shiftDown_40 (fun H locs Y => ?_)
      obtain ⟨v10, e11, hF⟩ := hp_b hF
      refine lv_iinc (v := v10) (lv' := [(4, .int v10), (0, .ref x0), (1, .ref x1), (2, .int x2), (3, .int x3)]) X.1 X.2.1 dX2_shiftDown_41 hl (k := 4) rfl (Option.some.inj e11) (by decide) rfl (fun ls hl => ?_)
      refine lv_goto (tgt := 17) X.1 X.2.1 dX2_shiftDown_44 (by decide) ?_
      exact ih Y (lv_sub hl [1, 2, 3, 4, 0] rfl) hF
theorem oX2_shiftDown {x0 : Nat} {x1 : Nat} {x2 : Int32} {h h' : hp_H}  (hF : fX2_shiftDown x0 x1 x2 h = some h') : hp_o h x0 2 = true := by
  unfold fX2_shiftDown at hF
  exact (hp_ift hF).1
set_option maxRecDepth 100000 in
set_option maxHeartbeats 4000000 in
theorem mX2_shiftDown (l : Launch) (G : hp_G) {x0 : Nat} {x1 : Nat} {x2 : Int32} {h h' : hp_H}  (hF : fX2_shiftDown x0 x1 x2 h = some h') : Met l yX2_shiftDown wsX2_shiftDown rmX2_shiftDown (va_Pc [.ref x0, .ref x1, .int x2] (hp_S G h)) (va_Qv (fun u => u = h') (hp_B G h) (hp_A h)) 0 0 (hp_A h) := by
  refine hp_met (cc := cX2_shiftDown) (nL := 5) (ret := none) (by decide) rfl ?_
  intro p e s m below meth c X Y
  have hl := lv_entry ([.ref x0, .ref x1, .int x2]) (n := 5) (Nat.le_of_ble_eq_true rfl)
  rw [lg_entry_eq]
  generalize (lg_sl ([.ref x0, .ref x1, .int x2]) ++ List.replicate (5 - (lg_sl ([.ref x0, .ref x1, .int x2])).length) Slot.unset).toArray = ls at hl ⊢
  have hl : lv_has ls 5 [(0, .ref x0), (1, .ref x1), (2, .int x2)] := hl
  unfold fX2_shiftDown at hF
  obtain ⟨ho, hF⟩ := hp_ift hF
  refine lv_aload_n X.1 X.2.1 dX2_shiftDown_0 rfl (lv_at hl 1 rfl) ?_
  obtain ⟨v1, e2, hF⟩ := hp_b hF
  refine hp_geti X Y (C := RX2) (T := TX2) (N := 2) (ci := 2) (k := 1) rfl inX2_shiftDown_X2 (by decide) lkX2_shiftDown_f15 e2 dX2_shiftDown_1 ?_
  refine lv_iload_n X.1 X.2.1 dX2_shiftDown_4 rfl (lv_at hl 2 rfl) ?_
  refine lv_bipush (v := 30) X.1 X.2.1 dX2_shiftDown_5 (by decide) ?_
  refine lv_idiv X.1 X.2.1 dX2_shiftDown_7 (by decide) ?_
  refine lv_isub X.1 X.2.1 dX2_shiftDown_8 ?_
  refine lv_iconst (v := 0) X.1 X.2.1 dX2_shiftDown_9 (by decide) ?_
  refine va_mmax X.1 X.2.1 (X.2.2.1.trans hl.1.symm) X.2.2.2.1 (X.2.2.2.2.1 _ lkX2_shiftDown_m49) (X.2.2.2.2.1 _ lkX2_shiftDown_ms_max) (X.2.2.2.2.1 _ lkX2_shiftDown_mi) (X.2.2.2.2.1 _ lkX2_shiftDown_mc_max) (Nat.le_of_ble_eq_true rfl) (Nat.le_of_ble_eq_true rfl) (Nat.zero_le _) (Nat.zero_le _) dX2_shiftDown_10 ?_
  obtain ⟨v3, e4, hF⟩ := hp_b hF
  refine hp_ti (Option.some.inj e4) ?_
  refine lv_istore_n (lv' := [(3, .int v3), (0, .ref x0), (1, .ref x1), (2, .int x2)]) X.1 X.2.1 dX2_shiftDown_13 rfl hl (by decide) rfl (fun ls hl => ?_)
  refine lv_iconst (v := 0) X.1 X.2.1 dX2_shiftDown_14 (by decide) ?_
  refine lv_istore (lv' := [(4, .int (0 : Int32)), (3, .int v3), (0, .ref x0), (1, .ref x1), (2, .int x2)]) X.1 X.2.1 dX2_shiftDown_15 hl (by decide) rfl (fun ls hl => ?_)
  exact wX2_shiftDown_17 X  hp_n Y (lv_sub hl [2, 3, 4, 1, 0] rfl) hF

/-! WholeNumbers$Natural.timesPlus -/
def rmX2_timesPlus : Room := { frames := 2, cells := 0, slots := 0, locals := 43 }
def bX2_timesPlus_6  (x0 : Nat) (x1 : Int32) : Nat → Int64 → Int32 → hp_H → Option hp_H
  | 0, _, _, _ => none
  | n + 1, x3, x5, h =>
  (hp_gi h x0 2 1).bind fun v1 =>
  if v1 ≤ x5 then (
    (hp_gi h x0 2 1).bind fun v4 =>
    if (140 : Int32) ≤ v4 then (
      some h)
    else (
      (hp_gr h x0 2 0).bind fun v7 =>
      (hp_gi h x0 2 1).bind fun v9 =>
      (hp_si h 0 v7 v9 (Int64.toInt32 x3)).bind fun h11 =>
      (hp_gi h11 x0 2 1).bind fun v13 =>
      (fX2_trim x0 (v13 + (1 : Int32)) h11).bind fun h16 =>
      some h16))
  else (
    (hp_gr h x0 2 0).bind fun v17 =>
    (hp_ai h 0 v17 x5).bind fun v19 =>
    (some (((Int32.toInt64 x1) * (Int32.toInt64 v19)) + x3)).bind fun v21 =>
    (hp_gr h x0 2 0).bind fun v23 =>
    (hp_si h 0 v23 x5 ((Int64.toInt32 v21) &&& (1073741823 : Int32))).bind fun h25 =>
    (some (hp_lushr v21 (30 : Int32))).bind fun v27 =>
    (some (x5 + (1 : Int32))).bind fun v29 =>
    bX2_timesPlus_6 x0 x1 n v27 v29 h25)
def fX2_timesPlus (x0 : Nat) (x1 : Int32) (x2 : Int32) (h : hp_H) : Option hp_H :=
  if hp_o h x0 2 = true then
  (some (Int32.toInt64 x2)).bind fun v1 =>
  bX2_timesPlus_6 x0 x1 hp_n v1 (0 : Int32) h
  else none
theorem inX2_timesPlus_X2 : ∀ w ∈ wsX20, w ∈ wsX2_timesPlus := by decide +kernel
theorem lkX2_timesPlus_f15 : Cond.fieldLink RX2 15 (TX2 1).1 (TX2 1).2.1 (TX2 1).2.2.1 ∈ wsX2_timesPlus := by decide +kernel
theorem lkX2_timesPlus_f9 : Cond.fieldLink RX2 9 (TX2 0).1 (TX2 0).2.1 (TX2 0).2.2.1 ∈ wsX2_timesPlus := by decide +kernel
theorem lkX2_timesPlus_c32 : Cond.constant RX2 32 (1073741823) ∈ wsX2_timesPlus := by decide +kernel
theorem ndX2_timesPlus : yX2_timesPlus.cls ≠ "java/lang/invoke/MethodHandle" ∧ yX2_timesPlus.cls ≠ "java/lang/invoke/VarHandle" ∧ (parseMethodDescriptor yX2_timesPlus.desc).map (fun d => d.parameters.length) = some 2 := by decide +kernel
set_option maxRecDepth 100000 in
set_option maxHeartbeats 4000000 in
theorem wX2_timesPlus_6 {p : Program} {l : Launch} {e : Env} {s : State} {m : MethodId} {args : Array Value} {below : List Frame} {meth : Method} {c : Code} {G : hp_G} {h0 h' : hp_H}  (X : hp_X p s m args meth c cX2_timesPlus 8 RX2 wsX2_timesPlus none G)  {x0 : Nat} {x1 : Int32}   : ∀ (n : Nat) {x3 : Int64} {x5 : Int32} {h : hp_H} {H : Heap} {locs : List Loc} {ls : Array Slot} (Y : hp_Y G h h0 s H locs) (hl : lv_has ls 8 [(0, .ref x0), (1, .int x1), (3, .long x3), (5, .int x5)]) (hF : bX2_timesPlus_6 x0 x1 n x3 x5 h = some h'), W p l e rmX2_timesPlus s m args below meth c H locs 0 0 (MQ below (va_Qv (fun u => u = h') (hp_B G h0) (hp_A h0)) args s 0 0 (hp_A h0)) (F0 m 6 ls []) := by
  intro n
  induction n with
  | zero =>
    intro x3 x5 h H locs ls Y hl hF
    exact absurd (show none = some _ from hF) (by simp)
  | succ n ih =>
    intro x3 x5 h H locs ls Y hl hF
    rw [bX2_timesPlus_6] at hF
    refine lv_iload X.1 X.2.1 dX2_timesPlus_6 (lv_at hl 3 rfl) ?_
    refine lv_aload_n X.1 X.2.1 dX2_timesPlus_8 rfl (lv_at hl 0 rfl) ?_
    obtain ⟨v1, e2, hF⟩ := hp_b hF
    refine hp_geti X Y (C := RX2) (T := TX2) (N := 2) (ci := 2) (k := 1) rfl inX2_timesPlus_X2 (by decide) lkX2_timesPlus_f15 e2 dX2_timesPlus_9 ?_
    refine lv_icmp_ge (tgt := 55) X.1 X.2.1 dX2_timesPlus_12 (by decide) (fun c3 => ?_) (fun c3 => ?_)
    · have hF := hp_ifp (c3) hF
      refine lv_aload_n X.1 X.2.1 dX2_timesPlus_55 rfl (lv_at hl 0 rfl) ?_
      obtain ⟨v4, e5, hF⟩ := hp_b hF
      refine hp_geti X Y (C := RX2) (T := TX2) (N := 2) (ci := 2) (k := 1) rfl inX2_timesPlus_X2 (by decide) lkX2_timesPlus_f15 e5 dX2_timesPlus_56 ?_
      refine lv_sipush (v := 140) X.1 X.2.1 dX2_timesPlus_59 (by decide) ?_
      refine lv_icmp_ge (tgt := 86) X.1 X.2.1 dX2_timesPlus_62 (by decide) (fun c6 => ?_) (fun c6 => ?_)
      · have hF := hp_ifp (c6) hF
        cases hF
        exact hp_rv X Y rfl dX2_timesPlus_86
      · have hF := hp_ifn (c6) hF
        refine lv_aload_n X.1 X.2.1 dX2_timesPlus_65 rfl (lv_at hl 0 rfl) ?_
        obtain ⟨v7, e8, hF⟩ := hp_b hF
        refine hp_getr X Y (C := RX2) (T := TX2) (N := 2) (ci := 2) (k := 0) rfl inX2_timesPlus_X2 (by decide) lkX2_timesPlus_f9 e8 dX2_timesPlus_66 ?_
        refine lv_aload_n X.1 X.2.1 dX2_timesPlus_69 rfl (lv_at hl 0 rfl) ?_
        obtain ⟨v9, e10, hF⟩ := hp_b hF
        refine hp_geti X Y (C := RX2) (T := TX2) (N := 2) (ci := 2) (k := 1) rfl inX2_timesPlus_X2 (by decide) lkX2_timesPlus_f15 e10 dX2_timesPlus_70 ?_
        refine lv_lload_n X.1 X.2.1 dX2_timesPlus_73 rfl (lv_at hl 2 rfl) ?_
        refine lv_l2i (v := Int64.toInt32 x3) X.1 X.2.1 dX2_timesPlus_74 rfl ?_
        obtain ⟨h11, e12, hF⟩ := hp_b hF
        refine hp_iast X Y e12 dX2_timesPlus_75 (fun H locs Y => ?_)
        refine lv_aload_n X.1 X.2.1 dX2_timesPlus_76 rfl (lv_at hl 0 rfl) ?_
        refine lv_aload_n X.1 X.2.1 dX2_timesPlus_77 rfl (lv_at hl 0 rfl) ?_
        obtain ⟨v13, e14, hF⟩ := hp_b hF
        refine hp_geti X Y (C := RX2) (T := TX2) (N := 2) (ci := 2) (k := 1) rfl inX2_timesPlus_X2 (by decide) lkX2_timesPlus_f15 e14 dX2_timesPlus_78 ?_
        refine lv_iconst (v := 1) X.1 X.2.1 dX2_timesPlus_81 (by decide) ?_
        refine lv_iadd X.1 X.2.1 dX2_timesPlus_82 ?_
        obtain ⟨h16, e15, hF⟩ := hp_b hF
        refine hp_cv Y (hp_runV X Y (ci := 2) (As := [.int (v13 + (1 : Int32))]) (n := 1) (T := TX2) (N := 2) (mX2_trim l G e15) rfl (oX2_trim e15) gX2_timesPlus_X2_trim rfl rfl rfl ndX2_trim ⟨Nat.le_of_ble_eq_true rfl, Nat.le_of_ble_eq_true rfl⟩ rfl hl.1 rfl (Nat.le_of_ble_eq_true rfl) dX2_timesPlus_83 ⟨Nat.zero_le _, Nat.zero_le _⟩) (fun H locs Y => ?_)
        cases hF
        exact hp_rv X Y rfl dX2_timesPlus_86
    · have hF := hp_ifn (c3) hF
      refine lv_iload_n X.1 X.2.1 dX2_timesPlus_15 rfl (lv_at hl 1 rfl) ?_
      refine lv_i2l (v := Int32.toInt64 x1) X.1 X.2.1 dX2_timesPlus_16 rfl ?_
      refine lv_aload_n X.1 X.2.1 dX2_timesPlus_17 rfl (lv_at hl 0 rfl) ?_
      obtain ⟨v17, e18, hF⟩ := hp_b hF
      refine hp_getr X Y (C := RX2) (T := TX2) (N := 2) (ci := 2) (k := 0) rfl inX2_timesPlus_X2 (by decide) lkX2_timesPlus_f9 e18 dX2_timesPlus_18 ?_
      refine lv_iload X.1 X.2.1 dX2_timesPlus_21 (lv_at hl 3 rfl) ?_
      obtain ⟨v19, e20, hF⟩ := hp_b hF
      refine hp_iald X Y e20 dX2_timesPlus_23 ?_
      refine lv_i2l (v := Int32.toInt64 v19) X.1 X.2.1 dX2_timesPlus_24 rfl ?_
      refine lv_lmul X.1 X.2.1 dX2_timesPlus_25 ?_
      refine lv_lload_n X.1 X.2.1 dX2_timesPlus_26 rfl (lv_at hl 2 rfl) ?_
      refine lv_ladd X.1 X.2.1 dX2_timesPlus_27 ?_
      obtain ⟨v21, e22, hF⟩ := hp_b hF
      refine hp_tj (Option.some.inj e22) ?_
      refine lv_lstore (lv' := [(6, .long v21), (0, .ref x0), (1, .int x1), (3, .long x3), (5, .int x5)]) X.1 X.2.1 dX2_timesPlus_28 hl (by decide) rfl (fun ls hl => ?_)
      refine lv_aload_n X.1 X.2.1 dX2_timesPlus_30 rfl (lv_at hl 1 rfl) ?_
      obtain ⟨v23, e24, hF⟩ := hp_b hF
      refine hp_getr X Y (C := RX2) (T := TX2) (N := 2) (ci := 2) (k := 0) rfl inX2_timesPlus_X2 (by decide) lkX2_timesPlus_f9 e24 dX2_timesPlus_31 ?_
      refine lv_iload X.1 X.2.1 dX2_timesPlus_34 (lv_at hl 4 rfl) ?_
      refine lv_lload X.1 X.2.1 dX2_timesPlus_36 (lv_at hl 0 rfl) ?_
      refine lv_l2i (v := Int64.toInt32 v21) X.1 X.2.1 dX2_timesPlus_38 rfl ?_
      refine lv_ldc (v := 1073741823) X.1 X.2.1 X.2.2.2.1 (X.2.2.2.2.1 _ lkX2_timesPlus_c32) dX2_timesPlus_39 ?_
      refine lv_iand X.1 X.2.1 dX2_timesPlus_41 ?_
      obtain ⟨h25, e26, hF⟩ := hp_b hF
      refine hp_iast X Y e26 dX2_timesPlus_42 (fun H locs Y => ?_)
      refine lv_lload X.1 X.2.1 dX2_timesPlus_43 (lv_at hl 0 rfl) ?_
      refine lv_bipush (v := 30) X.1 X.2.1 dX2_timesPlus_45 (by decide) ?_
      refine lv_lushr (v := hp_lushr v21 (30 : Int32)) X.1 X.2.1 dX2_timesPlus_47 rfl ?_
      obtain ⟨v27, e28, hF⟩ := hp_b hF
      refine hp_tj (Option.some.inj e28) ?_
      refine lv_lstore_n (lv' := [(3, .long v27), (6, .long v21), (0, .ref x0), (1, .int x1), (5, .int x5)]) X.1 X.2.1 dX2_timesPlus_48 rfl hl (by decide) rfl (fun ls hl => ?_)
      obtain ⟨v29, e30, hF⟩ := hp_b hF
      refine lv_iinc (v := v29) (lv' := [(5, .int v29), (3, .long v27), (6, .long v21), (0, .ref x0), (1, .int x1)]) X.1 X.2.1 dX2_timesPlus_49 hl (k := 4) rfl (Option.some.inj e30) (by decide) rfl (fun ls hl => ?_)
      refine lv_goto (tgt := 6) X.1 X.2.1 dX2_timesPlus_52 (by decide) ?_
      exact ih Y (lv_sub hl [3, 4, 1, 0] rfl) hF
theorem oX2_timesPlus {x0 : Nat} {x1 : Int32} {x2 : Int32} {h h' : hp_H}  (hF : fX2_timesPlus x0 x1 x2 h = some h') : hp_o h x0 2 = true := by
  unfold fX2_timesPlus at hF
  exact (hp_ift hF).1
set_option maxRecDepth 100000 in
set_option maxHeartbeats 4000000 in
theorem mX2_timesPlus (l : Launch) (G : hp_G) {x0 : Nat} {x1 : Int32} {x2 : Int32} {h h' : hp_H}  (hF : fX2_timesPlus x0 x1 x2 h = some h') : Met l yX2_timesPlus wsX2_timesPlus rmX2_timesPlus (va_Pc [.ref x0, .int x1, .int x2] (hp_S G h)) (va_Qv (fun u => u = h') (hp_B G h) (hp_A h)) 0 0 (hp_A h) := by
  refine hp_met (cc := cX2_timesPlus) (nL := 8) (ret := none) (by decide) rfl ?_
  intro p e s m below meth c X Y
  have hl := lv_entry ([.ref x0, .int x1, .int x2]) (n := 8) (Nat.le_of_ble_eq_true rfl)
  rw [lg_entry_eq]
  generalize (lg_sl ([.ref x0, .int x1, .int x2]) ++ List.replicate (8 - (lg_sl ([.ref x0, .int x1, .int x2])).length) Slot.unset).toArray = ls at hl ⊢
  have hl : lv_has ls 8 [(0, .ref x0), (1, .int x1), (2, .int x2)] := hl
  unfold fX2_timesPlus at hF
  obtain ⟨ho, hF⟩ := hp_ift hF
  refine lv_iload_n X.1 X.2.1 dX2_timesPlus_0 rfl (lv_at hl 2 rfl) ?_
  refine lv_i2l (v := Int32.toInt64 x2) X.1 X.2.1 dX2_timesPlus_1 rfl ?_
  obtain ⟨v1, e2, hF⟩ := hp_b hF
  refine hp_tj (Option.some.inj e2) ?_
  refine lv_lstore_n (lv' := [(3, .long v1), (0, .ref x0), (1, .int x1), (2, .int x2)]) X.1 X.2.1 dX2_timesPlus_2 rfl hl (by decide) rfl (fun ls hl => ?_)
  refine lv_iconst (v := 0) X.1 X.2.1 dX2_timesPlus_3 (by decide) ?_
  refine lv_istore (lv' := [(5, .int (0 : Int32)), (3, .long v1), (0, .ref x0), (1, .int x1), (2, .int x2)]) X.1 X.2.1 dX2_timesPlus_4 hl (by decide) rfl (fun ls hl => ?_)
  exact wX2_timesPlus_6 X  hp_n Y (lv_sub hl [2, 3, 1, 0] rfl) hF

/-! WholeNumbers$Natural.cutBy -/
def rmX2_cutBy : Room := { frames := 2, cells := 0, slots := 0, locals := 43 }
def bX2_cutBy_17  (x0 : Nat) (x1 : Int32) : Nat → Int64 → Int32 → hp_H → Option (Int32 × hp_H)
  | 0, _, _, _ => none
  | n + 1, x2, x4, h =>
  if x4 < 0 then (
    (hp_gi h x0 2 1).bind fun v2 =>
    (fX2_trim x0 v2 h).bind fun h5 =>
    some (Int64.toInt32 x2, h5))
  else (
    (hp_gr h x0 2 0).bind fun v6 =>
    (hp_ai h 0 v6 x4).bind fun v8 =>
    (some ((hp_lshl x2 (30 : Int32)) ||| (Int32.toInt64 v8))).bind fun v10 =>
    (hp_gr h x0 2 0).bind fun v12 =>
    if ¬ (Int32.toInt64 x1) = 0 then
    (hp_si h 0 v12 x4 (Int64.toInt32 (v10 / (Int32.toInt64 x1)))).bind fun h15 =>
    if ¬ (Int32.toInt64 x1) = 0 then
    (some (hp_lrem v10 (Int32.toInt64 x1))).bind fun v18 =>
    (some (x4 + (-1 : Int32))).bind fun v20 =>
    bX2_cutBy_17 x0 x1 n v18 v20 h15
    else none
    else none)
def fX2_cutBy (x0 : Nat) (x1 : Int32) (h : hp_H) : Option (Int32 × hp_H) :=
  if hp_o h x0 2 = true then
  if (1 : Int32) ≤ x1 then (
    (hp_gi h x0 2 1).bind fun v2 =>
    (some (v2 - (1 : Int32))).bind fun v4 =>
    bX2_cutBy_17 x0 x1 hp_n (0 : Int64) v4 h)
  else (
    some ((0 : Int32), h))
  else none
theorem inX2_cutBy_X2 : ∀ w ∈ wsX20, w ∈ wsX2_cutBy := by decide +kernel
theorem lkX2_cutBy_f15 : Cond.fieldLink RX2 15 (TX2 1).1 (TX2 1).2.1 (TX2 1).2.2.1 ∈ wsX2_cutBy := by decide +kernel
theorem lkX2_cutBy_f9 : Cond.fieldLink RX2 9 (TX2 0).1 (TX2 0).2.1 (TX2 0).2.2.1 ∈ wsX2_cutBy := by decide +kernel
theorem ndX2_cutBy : yX2_cutBy.cls ≠ "java/lang/invoke/MethodHandle" ∧ yX2_cutBy.cls ≠ "java/lang/invoke/VarHandle" ∧ (parseMethodDescriptor yX2_cutBy.desc).map (fun d => d.parameters.length) = some 1 := by decide +kernel
set_option maxRecDepth 100000 in
set_option maxHeartbeats 4000000 in
theorem wX2_cutBy_17 {p : Program} {l : Launch} {e : Env} {s : State} {m : MethodId} {args : Array Value} {below : List Frame} {meth : Method} {c : Code} {G : hp_G} {h0 h' : hp_H} {r : Int32} (X : hp_X p s m args meth c cX2_cutBy 7 RX2 wsX2_cutBy (some .int) G)  {x0 : Nat} {x1 : Int32}   : ∀ (n : Nat) {x2 : Int64} {x4 : Int32} {h : hp_H} {H : Heap} {locs : List Loc} {ls : Array Slot} (Y : hp_Y G h h0 s H locs) (hl : lv_has ls 7 [(0, .ref x0), (1, .int x1), (2, .long x2), (4, .int x4)]) (hF : bX2_cutBy_17 x0 x1 n x2 x4 h = some (r, h')), W p l e rmX2_cutBy s m args below meth c H locs 0 0 (MQ below (va_Qi (fun r' u => r' = r ∧ u = h') (hp_B G h0) (hp_A h0)) args s 0 0 (hp_A h0)) (F0 m 17 ls []) := by
  intro n
  induction n with
  | zero =>
    intro x2 x4 h H locs ls Y hl hF
    exact absurd (show none = some _ from hF) (by simp)
  | succ n ih =>
    intro x2 x4 h H locs ls Y hl hF
    rw [bX2_cutBy_17] at hF
    refine lv_iload X.1 X.2.1 dX2_cutBy_17 (lv_at hl 3 rfl) ?_
    refine lv_if_lt (tgt := 62) X.1 X.2.1 dX2_cutBy_19 (by decide) (fun c1 => ?_) (fun c1 => ?_)
    · have hF := hp_ifp (c1) hF
      refine lv_aload_n X.1 X.2.1 dX2_cutBy_62 rfl (lv_at hl 0 rfl) ?_
      refine lv_aload_n X.1 X.2.1 dX2_cutBy_63 rfl (lv_at hl 0 rfl) ?_
      obtain ⟨v2, e3, hF⟩ := hp_b hF
      refine hp_geti X Y (C := RX2) (T := TX2) (N := 2) (ci := 2) (k := 1) rfl inX2_cutBy_X2 (by decide) lkX2_cutBy_f15 e3 dX2_cutBy_64 ?_
      obtain ⟨h5, e4, hF⟩ := hp_b hF
      refine hp_cv Y (hp_runV X Y (ci := 2) (As := [.int v2]) (n := 1) (T := TX2) (N := 2) (mX2_trim l G e4) rfl (oX2_trim e4) gX2_cutBy_X2_trim rfl rfl rfl ndX2_trim ⟨Nat.le_of_ble_eq_true rfl, Nat.le_of_ble_eq_true rfl⟩ rfl hl.1 rfl (Nat.le_of_ble_eq_true rfl) dX2_cutBy_67 ⟨Nat.zero_le _, Nat.zero_le _⟩) (fun H locs Y => ?_)
      refine lv_lload_n X.1 X.2.1 dX2_cutBy_70 rfl (lv_at hl 2 rfl) ?_
      refine lv_l2i (v := Int64.toInt32 x2) X.1 X.2.1 dX2_cutBy_71 rfl ?_
      cases hF
      exact hp_ri X Y rfl rfl dX2_cutBy_72
    · have hF := hp_ifn (c1) hF
      refine lv_lload_n X.1 X.2.1 dX2_cutBy_22 rfl (lv_at hl 2 rfl) ?_
      refine lv_bipush (v := 30) X.1 X.2.1 dX2_cutBy_23 (by decide) ?_
      refine lv_lshl (v := hp_lshl x2 (30 : Int32)) X.1 X.2.1 dX2_cutBy_25 rfl ?_
      refine lv_aload_n X.1 X.2.1 dX2_cutBy_26 rfl (lv_at hl 0 rfl) ?_
      obtain ⟨v6, e7, hF⟩ := hp_b hF
      refine hp_getr X Y (C := RX2) (T := TX2) (N := 2) (ci := 2) (k := 0) rfl inX2_cutBy_X2 (by decide) lkX2_cutBy_f9 e7 dX2_cutBy_27 ?_
      refine lv_iload X.1 X.2.1 dX2_cutBy_30 (lv_at hl 3 rfl) ?_
      obtain ⟨v8, e9, hF⟩ := hp_b hF
      refine hp_iald X Y e9 dX2_cutBy_32 ?_
      refine lv_i2l (v := Int32.toInt64 v8) X.1 X.2.1 dX2_cutBy_33 rfl ?_
      refine lv_lor X.1 X.2.1 dX2_cutBy_34 ?_
      obtain ⟨v10, e11, hF⟩ := hp_b hF
      refine hp_tj (Option.some.inj e11) ?_
      refine lv_lstore (lv' := [(5, .long v10), (0, .ref x0), (1, .int x1), (2, .long x2), (4, .int x4)]) X.1 X.2.1 dX2_cutBy_35 hl (by decide) rfl (fun ls hl => ?_)
      refine lv_aload_n X.1 X.2.1 dX2_cutBy_37 rfl (lv_at hl 1 rfl) ?_
      obtain ⟨v12, e13, hF⟩ := hp_b hF
      refine hp_getr X Y (C := RX2) (T := TX2) (N := 2) (ci := 2) (k := 0) rfl inX2_cutBy_X2 (by decide) lkX2_cutBy_f9 e13 dX2_cutBy_38 ?_
      refine lv_iload X.1 X.2.1 dX2_cutBy_41 (lv_at hl 4 rfl) ?_
      refine lv_lload X.1 X.2.1 dX2_cutBy_43 (lv_at hl 0 rfl) ?_
      refine lv_iload_n X.1 X.2.1 dX2_cutBy_45 rfl (lv_at hl 2 rfl) ?_
      refine lv_i2l (v := Int32.toInt64 x1) X.1 X.2.1 dX2_cutBy_46 rfl ?_
      obtain ⟨e14, hF⟩ := hp_ift hF
      refine lv_ldiv X.1 X.2.1 dX2_cutBy_47 e14 ?_
      refine lv_l2i (v := Int64.toInt32 (v10 / (Int32.toInt64 x1))) X.1 X.2.1 dX2_cutBy_48 rfl ?_
      obtain ⟨h15, e16, hF⟩ := hp_b hF
      refine hp_iast X Y e16 dX2_cutBy_49 (fun H locs Y => ?_)
      refine lv_lload X.1 X.2.1 dX2_cutBy_50 (lv_at hl 0 rfl) ?_
      refine lv_iload_n X.1 X.2.1 dX2_cutBy_52 rfl (lv_at hl 2 rfl) ?_
      refine lv_i2l (v := Int32.toInt64 x1) X.1 X.2.1 dX2_cutBy_53 rfl ?_
      obtain ⟨e17, hF⟩ := hp_ift hF
      refine lv_lrem X.1 X.2.1 dX2_cutBy_54 e17 ?_
      obtain ⟨v18, e19, hF⟩ := hp_b hF
      refine hp_tj (Option.some.inj e19) ?_
      refine lv_lstore_n (lv' := [(2, .long v18), (5, .long v10), (0, .ref x0), (1, .int x1), (4, .int x4)]) X.1 X.2.1 dX2_cutBy_55 rfl hl (by decide) rfl (fun ls hl => ?_)
      obtain ⟨v20, e21, hF⟩ := hp_b hF
      refine lv_iinc (v := v20) (lv' := [(4, .int v20), (2, .long v18), (5, .long v10), (0, .ref x0), (1, .int x1)]) X.1 X.2.1 dX2_cutBy_56 hl (k := 4) rfl (Option.some.inj e21) (by decide) rfl (fun ls hl => ?_)
      refine lv_goto (tgt := 17) X.1 X.2.1 dX2_cutBy_59 (by decide) ?_
      exact ih Y (lv_sub hl [3, 4, 1, 0] rfl) hF
theorem oX2_cutBy {x0 : Nat} {x1 : Int32} {h h' : hp_H} {r : Int32} (hF : fX2_cutBy x0 x1 h = some (r, h')) : hp_o h x0 2 = true := by
  unfold fX2_cutBy at hF
  exact (hp_ift hF).1
set_option maxRecDepth 100000 in
set_option maxHeartbeats 4000000 in
theorem mX2_cutBy (l : Launch) (G : hp_G) {x0 : Nat} {x1 : Int32} {h h' : hp_H} {r : Int32} (hF : fX2_cutBy x0 x1 h = some (r, h')) : Met l yX2_cutBy wsX2_cutBy rmX2_cutBy (va_Pc [.ref x0, .int x1] (hp_S G h)) (va_Qi (fun r' u => r' = r ∧ u = h') (hp_B G h) (hp_A h)) 0 0 (hp_A h) := by
  refine hp_met (cc := cX2_cutBy) (nL := 7) (ret := (some .int)) (by decide) rfl ?_
  intro p e s m below meth c X Y
  have hl := lv_entry ([.ref x0, .int x1]) (n := 7) (Nat.le_of_ble_eq_true rfl)
  rw [lg_entry_eq]
  generalize (lg_sl ([.ref x0, .int x1]) ++ List.replicate (7 - (lg_sl ([.ref x0, .int x1])).length) Slot.unset).toArray = ls at hl ⊢
  have hl : lv_has ls 7 [(0, .ref x0), (1, .int x1)] := hl
  unfold fX2_cutBy at hF
  obtain ⟨ho, hF⟩ := hp_ift hF
  refine lv_iload_n X.1 X.2.1 dX2_cutBy_0 rfl (lv_at hl 1 rfl) ?_
  refine lv_iconst (v := 1) X.1 X.2.1 dX2_cutBy_1 (by decide) ?_
  refine lv_icmp_ge (tgt := 7) X.1 X.2.1 dX2_cutBy_2 (by decide) (fun c1 => ?_) (fun c1 => ?_)
  · have hF := hp_ifp (c1) hF
    refine lv_lconst (v := 0) X.1 X.2.1 dX2_cutBy_7 (by decide) ?_
    refine lv_lstore_n (lv' := [(2, .long (0 : Int64)), (0, .ref x0), (1, .int x1)]) X.1 X.2.1 dX2_cutBy_8 rfl hl (by decide) rfl (fun ls hl => ?_)
    refine lv_aload_n X.1 X.2.1 dX2_cutBy_9 rfl (lv_at hl 1 rfl) ?_
    obtain ⟨v2, e3, hF⟩ := hp_b hF
    refine hp_geti X Y (C := RX2) (T := TX2) (N := 2) (ci := 2) (k := 1) rfl inX2_cutBy_X2 (by decide) lkX2_cutBy_f15 e3 dX2_cutBy_10 ?_
    refine lv_iconst (v := 1) X.1 X.2.1 dX2_cutBy_13 (by decide) ?_
    refine lv_isub X.1 X.2.1 dX2_cutBy_14 ?_
    obtain ⟨v4, e5, hF⟩ := hp_b hF
    refine hp_ti (Option.some.inj e5) ?_
    refine lv_istore (lv' := [(4, .int v4), (2, .long (0 : Int64)), (0, .ref x0), (1, .int x1)]) X.1 X.2.1 dX2_cutBy_15 hl (by decide) rfl (fun ls hl => ?_)
    exact wX2_cutBy_17 X  hp_n Y (lv_sub hl [2, 3, 1, 0] rfl) hF
  · have hF := hp_ifn (c1) hF
    refine lv_iconst (v := 0) X.1 X.2.1 dX2_cutBy_5 (by decide) ?_
    cases hF
    exact hp_ri X Y rfl rfl dX2_cutBy_6

/-! WholeNumbers$Natural.padTo -/
def rmX2_padTo : Room := { frames := 0, cells := 0, slots := 0, locals := 0 }
def bX2_padTo_5  (x0 : Nat) (x1 : Int32) : Nat → Int32 → hp_H → Option hp_H
  | 0, _, _ => none
  | n + 1, x2, h =>
  if x1 ≤ x2 then (
    some h)
  else (
    if (140 : Int32) ≤ x2 then (
      some h)
    else (
      (hp_gr h x0 2 0).bind fun v3 =>
      (hp_si h 0 v3 x2 (0 : Int32)).bind fun h5 =>
      (some (x2 + (1 : Int32))).bind fun v7 =>
      bX2_padTo_5 x0 x1 n v7 h5))
def fX2_padTo (x0 : Nat) (x1 : Int32) (h : hp_H) : Option hp_H :=
  if hp_o h x0 2 = true then
  (hp_gi h x0 2 1).bind fun v1 =>
  bX2_padTo_5 x0 x1 hp_n v1 h
  else none
theorem inX2_padTo_X2 : ∀ w ∈ wsX20, w ∈ wsX2_padTo := by decide +kernel
theorem lkX2_padTo_f9 : Cond.fieldLink RX2 9 (TX2 0).1 (TX2 0).2.1 (TX2 0).2.2.1 ∈ wsX2_padTo := by decide +kernel
theorem lkX2_padTo_f15 : Cond.fieldLink RX2 15 (TX2 1).1 (TX2 1).2.1 (TX2 1).2.2.1 ∈ wsX2_padTo := by decide +kernel
theorem ndX2_padTo : yX2_padTo.cls ≠ "java/lang/invoke/MethodHandle" ∧ yX2_padTo.cls ≠ "java/lang/invoke/VarHandle" ∧ (parseMethodDescriptor yX2_padTo.desc).map (fun d => d.parameters.length) = some 1 := by decide +kernel
set_option maxRecDepth 100000 in
set_option maxHeartbeats 4000000 in
theorem wX2_padTo_5 {p : Program} {l : Launch} {e : Env} {s : State} {m : MethodId} {args : Array Value} {below : List Frame} {meth : Method} {c : Code} {G : hp_G} {h0 h' : hp_H}  (X : hp_X p s m args meth c cX2_padTo 3 RX2 wsX2_padTo none G)  {x0 : Nat} {x1 : Int32}   : ∀ (n : Nat) {x2 : Int32} {h : hp_H} {H : Heap} {locs : List Loc} {ls : Array Slot} (Y : hp_Y G h h0 s H locs) (hl : lv_has ls 3 [(0, .ref x0), (1, .int x1), (2, .int x2)]) (hF : bX2_padTo_5 x0 x1 n x2 h = some h'), W p l e rmX2_padTo s m args below meth c H locs 0 0 (MQ below (va_Qv (fun u => u = h') (hp_B G h0) (hp_A h0)) args s 0 0 (hp_A h0)) (F0 m 5 ls []) := by
  intro n
  induction n with
  | zero =>
    intro x2 h H locs ls Y hl hF
    exact absurd (show none = some _ from hF) (by simp)
  | succ n ih =>
    intro x2 h H locs ls Y hl hF
    rw [bX2_padTo_5] at hF
    refine lv_iload_n X.1 X.2.1 dX2_padTo_5 rfl (lv_at hl 2 rfl) ?_
    refine lv_iload_n X.1 X.2.1 dX2_padTo_6 rfl (lv_at hl 1 rfl) ?_
    refine lv_icmp_ge (tgt := 30) X.1 X.2.1 dX2_padTo_7 (by decide) (fun c1 => ?_) (fun c1 => ?_)
    · have hF := hp_ifp (c1) hF
      cases hF
      exact hp_rv X Y rfl dX2_padTo_30
    · have hF := hp_ifn (c1) hF
      refine lv_iload_n X.1 X.2.1 dX2_padTo_10 rfl (lv_at hl 2 rfl) ?_
      refine lv_sipush (v := 140) X.1 X.2.1 dX2_padTo_11 (by decide) ?_
      refine lv_icmp_ge (tgt := 30) X.1 X.2.1 dX2_padTo_14 (by decide) (fun c2 => ?_) (fun c2 => ?_)
      · have hF := hp_ifp (c2) hF
        cases hF
        exact hp_rv X Y rfl dX2_padTo_30
      · have hF := hp_ifn (c2) hF
        refine lv_aload_n X.1 X.2.1 dX2_padTo_17 rfl (lv_at hl 0 rfl) ?_
        obtain ⟨v3, e4, hF⟩ := hp_b hF
        refine hp_getr X Y (C := RX2) (T := TX2) (N := 2) (ci := 2) (k := 0) rfl inX2_padTo_X2 (by decide) lkX2_padTo_f9 e4 dX2_padTo_18 ?_
        refine lv_iload_n X.1 X.2.1 dX2_padTo_21 rfl (lv_at hl 2 rfl) ?_
        refine lv_iconst (v := 0) X.1 X.2.1 dX2_padTo_22 (by decide) ?_
        obtain ⟨h5, e6, hF⟩ := hp_b hF
        refine hp_iast X Y e6 dX2_padTo_23 (fun H locs Y => ?_)
        obtain ⟨v7, e8, hF⟩ := hp_b hF
        refine lv_iinc (v := v7) (lv' := [(2, .int v7), (0, .ref x0), (1, .int x1)]) X.1 X.2.1 dX2_padTo_24 hl (k := 2) rfl (Option.some.inj e8) (by decide) rfl (fun ls hl => ?_)
        refine lv_goto (tgt := 5) X.1 X.2.1 dX2_padTo_27 (by decide) ?_
        exact ih Y (lv_sub hl [1, 2, 0] rfl) hF
theorem oX2_padTo {x0 : Nat} {x1 : Int32} {h h' : hp_H}  (hF : fX2_padTo x0 x1 h = some h') : hp_o h x0 2 = true := by
  unfold fX2_padTo at hF
  exact (hp_ift hF).1
set_option maxRecDepth 100000 in
set_option maxHeartbeats 4000000 in
theorem mX2_padTo (l : Launch) (G : hp_G) {x0 : Nat} {x1 : Int32} {h h' : hp_H}  (hF : fX2_padTo x0 x1 h = some h') : Met l yX2_padTo wsX2_padTo rmX2_padTo (va_Pc [.ref x0, .int x1] (hp_S G h)) (va_Qv (fun u => u = h') (hp_B G h) (hp_A h)) 0 0 (hp_A h) := by
  refine hp_met (cc := cX2_padTo) (nL := 3) (ret := none) (by decide) rfl ?_
  intro p e s m below meth c X Y
  have hl := lv_entry ([.ref x0, .int x1]) (n := 3) (Nat.le_of_ble_eq_true rfl)
  rw [lg_entry_eq]
  generalize (lg_sl ([.ref x0, .int x1]) ++ List.replicate (3 - (lg_sl ([.ref x0, .int x1])).length) Slot.unset).toArray = ls at hl ⊢
  have hl : lv_has ls 3 [(0, .ref x0), (1, .int x1)] := hl
  unfold fX2_padTo at hF
  obtain ⟨ho, hF⟩ := hp_ift hF
  refine lv_aload_n X.1 X.2.1 dX2_padTo_0 rfl (lv_at hl 0 rfl) ?_
  obtain ⟨v1, e2, hF⟩ := hp_b hF
  refine hp_geti X Y (C := RX2) (T := TX2) (N := 2) (ci := 2) (k := 1) rfl inX2_padTo_X2 (by decide) lkX2_padTo_f15 e2 dX2_padTo_1 ?_
  refine lv_istore_n (lv' := [(2, .int v1), (0, .ref x0), (1, .int x1)]) X.1 X.2.1 dX2_padTo_4 rfl hl (by decide) rfl (fun ls hl => ?_)
  exact wX2_padTo_5 X  hp_n Y (lv_sub hl [1, 2, 0] rfl) hF
