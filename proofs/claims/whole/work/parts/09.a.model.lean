/-! WholeNumbersModel.thrown -/
def rmX6_thrown : Room := { frames := 0, cells := 0, slots := 0, locals := 0 }
def fX6_thrown (x0 : Nat) (h : hp_H) : Option Int32 :=
  if hp_o h x0 6 = true then
  (hp_gi h x0 6 11).bind fun v1 =>
  some v1
  else none
theorem inX6_thrown_X6 : ∀ w ∈ wsX60, w ∈ wsX6_thrown := by decide +kernel
theorem lkX6_thrown_f45 : Cond.fieldLink RX6 45 (TX6 11).1 (TX6 11).2.1 (TX6 11).2.2.1 ∈ wsX6_thrown := by decide +kernel
theorem ndX6_thrown : yX6_thrown.cls ≠ "java/lang/invoke/MethodHandle" ∧ yX6_thrown.cls ≠ "java/lang/invoke/VarHandle" ∧ (parseMethodDescriptor yX6_thrown.desc).map (fun d => d.parameters.length) = some 0 := by decide +kernel
theorem oX6_thrown {x0 : Nat} {h : hp_H} {r : Int32} (hF : fX6_thrown x0 h = some r) : hp_o h x0 6 = true := by
  unfold fX6_thrown at hF
  exact (hp_ift hF).1
set_option maxRecDepth 100000 in
set_option maxHeartbeats 4000000 in
theorem mX6_thrown (l : Launch) (G : hp_G) {x0 : Nat} {h : hp_H} {r : Int32} (hF : fX6_thrown x0 h = some r) : Met l yX6_thrown wsX6_thrown rmX6_thrown (va_Pc [.ref x0] (hp_S G h)) (va_Qi (fun r' u => r' = r ∧ u = h) (hp_B G h) (hp_A h)) 0 0 (hp_A h) := by
  refine hp_met (cc := cX6_thrown) (nL := 1) (ret := (some .int)) (by decide) rfl ?_
  intro p e s m below meth c X Y
  have hl := lv_entry ([.ref x0]) (n := 1) (Nat.le_of_ble_eq_true rfl)
  rw [lg_entry_eq]
  generalize (lg_sl ([.ref x0]) ++ List.replicate (1 - (lg_sl ([.ref x0])).length) Slot.unset).toArray = ls at hl ⊢
  have hl : lv_has ls 1 [(0, .ref x0)] := hl
  unfold fX6_thrown at hF
  obtain ⟨ho, hF⟩ := hp_ift hF
  refine lv_aload_n X.1 X.2.1 dX6_thrown_0 rfl (lv_at hl 0 rfl) ?_
  obtain ⟨v1, e2, hF⟩ := hp_b hF
  refine hp_geti X Y (C := RX6) (T := TX6) (N := 14) (ci := 6) (k := 11) rfl inX6_thrown_X6 (by decide) lkX6_thrown_f45 e2 dX6_thrown_1 ?_
  cases hF
  exact hp_ri X Y rfl rfl dX6_thrown_4

/-! WholeNumbersModel.isRegister -/
def rmX6_isRegister : Room := { frames := 0, cells := 0, slots := 0, locals := 0 }
def fX6_isRegister (x0 : Int32) : Option Int32 :=
  if x0 < 0 then (
    some (0 : Int32))
  else (
    if (7 : Int32) < x0 then (
      some (0 : Int32))
    else (
      some (1 : Int32)))
theorem ndX6_isRegister : yX6_isRegister.cls ≠ "java/lang/invoke/MethodHandle" ∧ yX6_isRegister.cls ≠ "java/lang/invoke/VarHandle" ∧ (parseMethodDescriptor yX6_isRegister.desc).map (fun d => d.parameters.length) = some 1 := by decide +kernel
set_option maxRecDepth 100000 in
set_option maxHeartbeats 4000000 in
theorem mX6_isRegister (l : Launch) (G : hp_G) {x0 : Int32} {h : hp_H} {r : Int32} (hF : fX6_isRegister x0 = some r) : Met l yX6_isRegister wsX6_isRegister rmX6_isRegister (va_Pc [.int x0] (hp_S G h)) (va_Qi (fun r' u => r' = r ∧ u = h) (hp_B G h) (hp_A h)) 0 0 (hp_A h) := by
  refine hp_met (cc := cX6_isRegister) (nL := 1) (ret := (some .boolean)) (by decide) rfl ?_
  intro p e s m below meth c X Y
  have hl := lv_entry ([.int x0]) (n := 1) (Nat.le_of_ble_eq_true rfl)
  rw [lg_entry_eq]
  generalize (lg_sl ([.int x0]) ++ List.replicate (1 - (lg_sl ([.int x0])).length) Slot.unset).toArray = ls at hl ⊢
  have hl : lv_has ls 1 [(0, .int x0)] := hl
  unfold fX6_isRegister at hF
  refine lv_iload_n X.1 X.2.1 dX6_isRegister_0 rfl (lv_at hl 0 rfl) ?_
  refine lv_if_lt (tgt := 14) X.1 X.2.1 dX6_isRegister_1 (by decide) (fun c1 => ?_) (fun c1 => ?_)
  · have hF := hp_ifp (c1) hF
    refine lv_iconst (v := 0) X.1 X.2.1 dX6_isRegister_14 (by decide) ?_
    cases hF
    exact hp_ri X Y rfl rfl dX6_isRegister_15
  · have hF := hp_ifn (c1) hF
    refine lv_iload_n X.1 X.2.1 dX6_isRegister_4 rfl (lv_at hl 0 rfl) ?_
    refine lv_bipush (v := 7) X.1 X.2.1 dX6_isRegister_5 (by decide) ?_
    refine lv_icmp_gt (tgt := 14) X.1 X.2.1 dX6_isRegister_7 (by decide) (fun c2 => ?_) (fun c2 => ?_)
    · have hF := hp_ifp (c2) hF
      refine lv_iconst (v := 0) X.1 X.2.1 dX6_isRegister_14 (by decide) ?_
      cases hF
      exact hp_ri X Y rfl rfl dX6_isRegister_15
    · have hF := hp_ifn (c2) hF
      refine lv_iconst (v := 1) X.1 X.2.1 dX6_isRegister_10 (by decide) ?_
      refine lv_goto (tgt := 15) X.1 X.2.1 dX6_isRegister_11 (by decide) ?_
      cases hF
      exact hp_ri X Y rfl rfl dX6_isRegister_15

/-! WholeNumbersModel.shortened -/
def rmX6_shortened : Room := { frames := 0, cells := 0, slots := 0, locals := 0 }
def bX6_shortened_2  (x0 : Nat) (h : hp_H) : Nat → Int32 → Option Int32
  | 0, _ => none
  | n + 1, x2 =>
  if x2 ≤ 0 then (
    some x2)
  else (
    (hp_ai h 0 x0 (x2 - (1 : Int32))).bind fun v2 =>
    if v2 = 0 then (
      (some (x2 + (-1 : Int32))).bind fun v5 =>
      bX6_shortened_2 x0 h n v5)
    else (
      some x2))
def fX6_shortened (x0 : Nat) (x1 : Int32) (h : hp_H) : Option Int32 :=
  bX6_shortened_2 x0 h hp_n x1
theorem ndX6_shortened : yX6_shortened.cls ≠ "java/lang/invoke/MethodHandle" ∧ yX6_shortened.cls ≠ "java/lang/invoke/VarHandle" ∧ (parseMethodDescriptor yX6_shortened.desc).map (fun d => d.parameters.length) = some 2 := by decide +kernel
set_option maxRecDepth 100000 in
set_option maxHeartbeats 4000000 in
theorem wX6_shortened_2 {p : Program} {l : Launch} {e : Env} {s : State} {m : MethodId} {args : Array Value} {below : List Frame} {meth : Method} {c : Code} {G : hp_G} {h0 : hp_H} {r : Int32} (X : hp_X p s m args meth c cX6_shortened 3 RX6 wsX6_shortened (some .int) G)  {x0 : Nat}   : ∀ (n : Nat) {x2 : Int32} {H : Heap} {locs : List Loc} {ls : Array Slot} (Y : hp_Y G h0 h0 s H locs) (hl : lv_has ls 3 [(0, .ref x0), (2, .int x2)]) (hF : bX6_shortened_2 x0 h0 n x2 = some r), W p l e rmX6_shortened s m args below meth c H locs 0 0 (MQ below (va_Qi (fun r' u => r' = r ∧ u = h0) (hp_B G h0) (hp_A h0)) args s 0 0 (hp_A h0)) (F0 m 2 ls []) := by
  intro n
  induction n with
  | zero =>
    intro x2 H locs ls Y hl hF
    exact absurd (show none = some _ from hF) (by simp)
  | succ n ih =>
    intro x2 H locs ls Y hl hF
    rw [bX6_shortened_2] at hF
    refine lv_iload_n X.1 X.2.1 dX6_shortened_2 rfl (lv_at hl 1 rfl) ?_
    refine lv_if_le (tgt := 20) X.1 X.2.1 dX6_shortened_3 (by decide) (fun c1 => ?_) (fun c1 => ?_)
    · have hF := hp_ifp (c1) hF
      refine lv_iload_n X.1 X.2.1 dX6_shortened_20 rfl (lv_at hl 1 rfl) ?_
      cases hF
      exact hp_ri X Y rfl rfl dX6_shortened_21
    · have hF := hp_ifn (c1) hF
      refine lv_aload_n X.1 X.2.1 dX6_shortened_6 rfl (lv_at hl 0 rfl) ?_
      refine lv_iload_n X.1 X.2.1 dX6_shortened_7 rfl (lv_at hl 1 rfl) ?_
      refine lv_iconst (v := 1) X.1 X.2.1 dX6_shortened_8 (by decide) ?_
      refine lv_isub X.1 X.2.1 dX6_shortened_9 ?_
      obtain ⟨v2, e3, hF⟩ := hp_b hF
      refine hp_iald X Y e3 dX6_shortened_10 ?_
      refine lv_if_ne (tgt := 20) X.1 X.2.1 dX6_shortened_11 (by decide) (fun c4 => ?_) (fun c4 => ?_)
      · have hF := hp_ifn (c4) hF
        refine lv_iload_n X.1 X.2.1 dX6_shortened_20 rfl (lv_at hl 1 rfl) ?_
        cases hF
        exact hp_ri X Y rfl rfl dX6_shortened_21
      · have hF := hp_ifp (c4) hF
        obtain ⟨v5, e6, hF⟩ := hp_b hF
        refine lv_iinc (v := v5) (lv' := [(2, .int v5), (0, .ref x0)]) X.1 X.2.1 dX6_shortened_14 hl (k := 1) rfl (Option.some.inj e6) (by decide) rfl (fun ls hl => ?_)
        refine lv_goto (tgt := 2) X.1 X.2.1 dX6_shortened_17 (by decide) ?_
        exact ih Y (lv_sub hl [1, 0] rfl) hF
set_option maxRecDepth 100000 in
set_option maxHeartbeats 4000000 in
theorem mX6_shortened (l : Launch) (G : hp_G) {x0 : Nat} {x1 : Int32} {h : hp_H} {r : Int32} (hF : fX6_shortened x0 x1 h = some r) : Met l yX6_shortened wsX6_shortened rmX6_shortened (va_Pc [.ref x0, .int x1] (hp_S G h)) (va_Qi (fun r' u => r' = r ∧ u = h) (hp_B G h) (hp_A h)) 0 0 (hp_A h) := by
  refine hp_met (cc := cX6_shortened) (nL := 3) (ret := (some .int)) (by decide) rfl ?_
  intro p e s m below meth c X Y
  have hl := lv_entry ([.ref x0, .int x1]) (n := 3) (Nat.le_of_ble_eq_true rfl)
  rw [lg_entry_eq]
  generalize (lg_sl ([.ref x0, .int x1]) ++ List.replicate (3 - (lg_sl ([.ref x0, .int x1])).length) Slot.unset).toArray = ls at hl ⊢
  have hl : lv_has ls 3 [(0, .ref x0), (1, .int x1)] := hl
  unfold fX6_shortened at hF
  refine lv_iload_n X.1 X.2.1 dX6_shortened_0 rfl (lv_at hl 1 rfl) ?_
  refine lv_istore_n (lv' := [(2, .int x1), (0, .ref x0), (1, .int x1)]) X.1 X.2.1 dX6_shortened_1 rfl hl (by decide) rfl (fun ls hl => ?_)
  exact wX6_shortened_2 X  hp_n Y (lv_sub hl [1, 0] rfl) hF

/-! WholeNumbersModel.compareRows -/
def rmX6_compareRows : Room := { frames := 0, cells := 0, slots := 0, locals := 0 }
def bX6_compareRows_21  (x0 : Nat) (x2 : Nat) (h : hp_H) : Nat → Int32 → Option Int32
  | 0, _ => none
  | n + 1, x4 =>
  if x4 < 0 then (
    some (0 : Int32))
  else (
    (hp_ai h 0 x0 x4).bind fun v2 =>
    (hp_ai h 0 x2 x4).bind fun v4 =>
    if v2 = v4 then (
      (some (x4 + (-1 : Int32))).bind fun v7 =>
      bX6_compareRows_21 x0 x2 h n v7)
    else (
      (hp_ai h 0 x0 x4).bind fun v9 =>
      (hp_ai h 0 x2 x4).bind fun v11 =>
      if v11 ≤ v9 then (
        some (1 : Int32))
      else (
        some (-1 : Int32))))
def fX6_compareRows (x0 : Nat) (x1 : Int32) (x2 : Nat) (x3 : Int32) (h : hp_H) : Option Int32 :=
  if x1 = x3 then (
    (some (x1 - (1 : Int32))).bind fun v2 =>
    bX6_compareRows_21 x0 x2 h hp_n v2)
  else (
    if x3 ≤ x1 then (
      some (1 : Int32))
    else (
      some (-1 : Int32)))
theorem ndX6_compareRows : yX6_compareRows.cls ≠ "java/lang/invoke/MethodHandle" ∧ yX6_compareRows.cls ≠ "java/lang/invoke/VarHandle" ∧ (parseMethodDescriptor yX6_compareRows.desc).map (fun d => d.parameters.length) = some 4 := by decide +kernel
set_option maxRecDepth 100000 in
set_option maxHeartbeats 4000000 in
theorem wX6_compareRows_21 {p : Program} {l : Launch} {e : Env} {s : State} {m : MethodId} {args : Array Value} {below : List Frame} {meth : Method} {c : Code} {G : hp_G} {h0 : hp_H} {r : Int32} (X : hp_X p s m args meth c cX6_compareRows 5 RX6 wsX6_compareRows (some .int) G)  {x0 : Nat} {x2 : Nat}   : ∀ (n : Nat) {x4 : Int32} {H : Heap} {locs : List Loc} {ls : Array Slot} (Y : hp_Y G h0 h0 s H locs) (hl : lv_has ls 5 [(0, .ref x0), (2, .ref x2), (4, .int x4)]) (hF : bX6_compareRows_21 x0 x2 h0 n x4 = some r), W p l e rmX6_compareRows s m args below meth c H locs 0 0 (MQ below (va_Qi (fun r' u => r' = r ∧ u = h0) (hp_B G h0) (hp_A h0)) args s 0 0 (hp_A h0)) (F0 m 21 ls []) := by
  intro n
  induction n with
  | zero =>
    intro x4 H locs ls Y hl hF
    exact absurd (show none = some _ from hF) (by simp)
  | succ n ih =>
    intro x4 H locs ls Y hl hF
    rw [bX6_compareRows_21] at hF
    refine lv_iload X.1 X.2.1 dX6_compareRows_21 (lv_at hl 2 rfl) ?_
    refine lv_if_lt (tgt := 60) X.1 X.2.1 dX6_compareRows_23 (by decide) (fun c1 => ?_) (fun c1 => ?_)
    · have hF := hp_ifp (c1) hF
      refine lv_iconst (v := 0) X.1 X.2.1 dX6_compareRows_60 (by decide) ?_
      cases hF
      exact hp_ri X Y rfl rfl dX6_compareRows_61
    · have hF := hp_ifn (c1) hF
      refine lv_aload_n X.1 X.2.1 dX6_compareRows_26 rfl (lv_at hl 0 rfl) ?_
      refine lv_iload X.1 X.2.1 dX6_compareRows_27 (lv_at hl 2 rfl) ?_
      obtain ⟨v2, e3, hF⟩ := hp_b hF
      refine hp_iald X Y e3 dX6_compareRows_29 ?_
      refine lv_aload_n X.1 X.2.1 dX6_compareRows_30 rfl (lv_at hl 1 rfl) ?_
      refine lv_iload X.1 X.2.1 dX6_compareRows_31 (lv_at hl 2 rfl) ?_
      obtain ⟨v4, e5, hF⟩ := hp_b hF
      refine hp_iald X Y e5 dX6_compareRows_33 ?_
      refine lv_icmp_eq (tgt := 54) X.1 X.2.1 dX6_compareRows_34 (by decide) (fun c6 => ?_) (fun c6 => ?_)
      · have hF := hp_ifp (c6) hF
        obtain ⟨v7, e8, hF⟩ := hp_b hF
        refine lv_iinc (v := v7) (lv' := [(4, .int v7), (0, .ref x0), (2, .ref x2)]) X.1 X.2.1 dX6_compareRows_54 hl (k := 2) rfl (Option.some.inj e8) (by decide) rfl (fun ls hl => ?_)
        refine lv_goto (tgt := 21) X.1 X.2.1 dX6_compareRows_57 (by decide) ?_
        exact ih Y (lv_sub hl [1, 2, 0] rfl) hF
      · have hF := hp_ifn (c6) hF
        refine lv_aload_n X.1 X.2.1 dX6_compareRows_37 rfl (lv_at hl 0 rfl) ?_
        refine lv_iload X.1 X.2.1 dX6_compareRows_38 (lv_at hl 2 rfl) ?_
        obtain ⟨v9, e10, hF⟩ := hp_b hF
        refine hp_iald X Y e10 dX6_compareRows_40 ?_
        refine lv_aload_n X.1 X.2.1 dX6_compareRows_41 rfl (lv_at hl 1 rfl) ?_
        refine lv_iload X.1 X.2.1 dX6_compareRows_42 (lv_at hl 2 rfl) ?_
        obtain ⟨v11, e12, hF⟩ := hp_b hF
        refine hp_iald X Y e12 dX6_compareRows_44 ?_
        refine lv_icmp_ge (tgt := 52) X.1 X.2.1 dX6_compareRows_45 (by decide) (fun c13 => ?_) (fun c13 => ?_)
        · have hF := hp_ifp (c13) hF
          refine lv_iconst (v := 1) X.1 X.2.1 dX6_compareRows_52 (by decide) ?_
          cases hF
          exact hp_ri X Y rfl rfl dX6_compareRows_53
        · have hF := hp_ifn (c13) hF
          refine lv_iconst (v := -1) X.1 X.2.1 dX6_compareRows_48 (by decide) ?_
          refine lv_goto (tgt := 53) X.1 X.2.1 dX6_compareRows_49 (by decide) ?_
          cases hF
          exact hp_ri X Y rfl rfl dX6_compareRows_53
set_option maxRecDepth 100000 in
set_option maxHeartbeats 4000000 in
theorem mX6_compareRows (l : Launch) (G : hp_G) {x0 : Nat} {x1 : Int32} {x2 : Nat} {x3 : Int32} {h : hp_H} {r : Int32} (hF : fX6_compareRows x0 x1 x2 x3 h = some r) : Met l yX6_compareRows wsX6_compareRows rmX6_compareRows (va_Pc [.ref x0, .int x1, .ref x2, .int x3] (hp_S G h)) (va_Qi (fun r' u => r' = r ∧ u = h) (hp_B G h) (hp_A h)) 0 0 (hp_A h) := by
  refine hp_met (cc := cX6_compareRows) (nL := 5) (ret := (some .int)) (by decide) rfl ?_
  intro p e s m below meth c X Y
  have hl := lv_entry ([.ref x0, .int x1, .ref x2, .int x3]) (n := 5) (Nat.le_of_ble_eq_true rfl)
  rw [lg_entry_eq]
  generalize (lg_sl ([.ref x0, .int x1, .ref x2, .int x3]) ++ List.replicate (5 - (lg_sl ([.ref x0, .int x1, .ref x2, .int x3])).length) Slot.unset).toArray = ls at hl ⊢
  have hl : lv_has ls 5 [(0, .ref x0), (1, .int x1), (2, .ref x2), (3, .int x3)] := hl
  unfold fX6_compareRows at hF
  refine lv_iload_n X.1 X.2.1 dX6_compareRows_0 rfl (lv_at hl 1 rfl) ?_
  refine lv_iload_n X.1 X.2.1 dX6_compareRows_1 rfl (lv_at hl 3 rfl) ?_
  refine lv_icmp_eq (tgt := 16) X.1 X.2.1 dX6_compareRows_2 (by decide) (fun c1 => ?_) (fun c1 => ?_)
  · have hF := hp_ifp (c1) hF
    refine lv_iload_n X.1 X.2.1 dX6_compareRows_16 rfl (lv_at hl 1 rfl) ?_
    refine lv_iconst (v := 1) X.1 X.2.1 dX6_compareRows_17 (by decide) ?_
    refine lv_isub X.1 X.2.1 dX6_compareRows_18 ?_
    obtain ⟨v2, e3, hF⟩ := hp_b hF
    refine hp_ti (Option.some.inj e3) ?_
    refine lv_istore (lv' := [(4, .int v2), (0, .ref x0), (1, .int x1), (2, .ref x2), (3, .int x3)]) X.1 X.2.1 dX6_compareRows_19 hl (by decide) rfl (fun ls hl => ?_)
    exact wX6_compareRows_21 X  hp_n Y (lv_sub hl [1, 3, 0] rfl) hF
  · have hF := hp_ifn (c1) hF
    refine lv_iload_n X.1 X.2.1 dX6_compareRows_5 rfl (lv_at hl 1 rfl) ?_
    refine lv_iload_n X.1 X.2.1 dX6_compareRows_6 rfl (lv_at hl 3 rfl) ?_
    refine lv_icmp_ge (tgt := 14) X.1 X.2.1 dX6_compareRows_7 (by decide) (fun c4 => ?_) (fun c4 => ?_)
    · have hF := hp_ifp (c4) hF
      refine lv_iconst (v := 1) X.1 X.2.1 dX6_compareRows_14 (by decide) ?_
      cases hF
      exact hp_ri X Y rfl rfl dX6_compareRows_15
    · have hF := hp_ifn (c4) hF
      refine lv_iconst (v := -1) X.1 X.2.1 dX6_compareRows_10 (by decide) ?_
      refine lv_goto (tgt := 15) X.1 X.2.1 dX6_compareRows_11 (by decide) ?_
      cases hF
      exact hp_ri X Y rfl rfl dX6_compareRows_15

/-! WholeNumbersModel.scaled -/
def rmX6_scaled : Room := { frames := 0, cells := 0, slots := 0, locals := 0 }
def bX6_scaled_31 (k6 : Int32 → Int32 → hp_H → Option (Int32 × hp_H)) (x0 : Nat) (x1 : Int32) (x2 : Int32) (x4 : Int32) (x5 : Int32) (t0 : Int32) (h : hp_H) : Option (Int32 × hp_H) :=
  (some ((t0 * x2) + x4)).bind fun v1 =>
  (hp_si h 0 x0 x5 (hp_irem v1 (10000 : Int32))).bind fun h3 =>
  (some (v1 / (10000 : Int32))).bind fun v5 =>
  (some (x5 + (1 : Int32))).bind fun v7 =>
  k6 v5 v7 h3
def bX6_scaled_17 (k6 : Int32 → Int32 → hp_H → Option (Int32 × hp_H)) (x0 : Nat) (x1 : Int32) (x2 : Int32) (x4 : Int32) (x5 : Int32)  (h : hp_H) : Option (Int32 × hp_H) :=
  if x1 ≤ x5 then (
    bX6_scaled_31 k6 x0 x1 x2 x4 x5 (0 : Int32) h)
  else (
    (hp_ai h 0 x0 x5).bind fun v2 =>
    bX6_scaled_31 k6 x0 x1 x2 x4 x5 v2 h)
def bX6_scaled_6  (x0 : Nat) (x1 : Int32) (x2 : Int32) : Nat → Int32 → Int32 → hp_H → Option (Int32 × hp_H)
  | 0, _, _, _ => none
  | n + 1, x4, x5, h =>
  if x5 < x1 then (
    bX6_scaled_17 (bX6_scaled_6 x0 x1 x2 n) x0 x1 x2 x4 x5 h)
  else (
    if x4 ≤ 0 then (
      some (x5, h))
    else (
      bX6_scaled_17 (bX6_scaled_6 x0 x1 x2 n) x0 x1 x2 x4 x5 h))
def fX6_scaled (x0 : Nat) (x1 : Int32) (x2 : Int32) (x3 : Int32) (h : hp_H) : Option (Int32 × hp_H) :=
  bX6_scaled_6 x0 x1 x2 hp_n x3 (0 : Int32) h
theorem ndX6_scaled : yX6_scaled.cls ≠ "java/lang/invoke/MethodHandle" ∧ yX6_scaled.cls ≠ "java/lang/invoke/VarHandle" ∧ (parseMethodDescriptor yX6_scaled.desc).map (fun d => d.parameters.length) = some 4 := by decide +kernel
set_option maxRecDepth 100000 in
set_option maxHeartbeats 4000000 in
theorem wX6_scaled_31 {p : Program} {l : Launch} {e : Env} {s : State} {m : MethodId} {args : Array Value} {below : List Frame} {meth : Method} {c : Code} {G : hp_G} {h0 h' : hp_H} {r : Int32} (X : hp_X p s m args meth c cX6_scaled 7 RX6 wsX6_scaled (some .int) G) {k6 : Int32 → Int32 → hp_H → Option (Int32 × hp_H)} {x0 : Nat} {x1 : Int32} {x2 : Int32} {x4 : Int32} {x5 : Int32}  (hk6 : ∀ (y4 : Int32) (y5 : Int32) (h : hp_H) (H : Heap) (locs : List Loc) (ls : Array Slot), hp_Y G h h0 s H locs → lv_has ls 7 [(0, .ref x0), (1, .int x1), (2, .int x2), (4, .int y4), (5, .int y5)] → k6 y4 y5 h = some (r, h') → W p l e rmX6_scaled s m args below meth c H locs 0 0 (MQ below (va_Qi (fun r' u => r' = r ∧ u = h') (hp_B G h0) (hp_A h0)) args s 0 0 (hp_A h0)) (F0 m 6 ls [])) {t0 : Int32} {h : hp_H} {H : Heap} {locs : List Loc} {ls : Array Slot} (Y : hp_Y G h h0 s H locs) (hl : lv_has ls 7 [(0, .ref x0), (1, .int x1), (2, .int x2), (4, .int x4), (5, .int x5)]) (hF : bX6_scaled_31 k6 x0 x1 x2 x4 x5 t0 h = some (r, h')) : W p l e rmX6_scaled s m args below meth c H locs 0 0 (MQ below (va_Qi (fun r' u => r' = r ∧ u = h') (hp_B G h0) (hp_A h0)) args s 0 0 (hp_A h0)) (F0 m 31 ls [.int t0]) := by
  unfold bX6_scaled_31 at hF
  refine lv_iload_n X.1 X.2.1 dX6_scaled_31 rfl (lv_at hl 2 rfl) ?_
  refine lv_imul X.1 X.2.1 dX6_scaled_32 ?_
  refine lv_iload X.1 X.2.1 dX6_scaled_33 (lv_at hl 3 rfl) ?_
  refine lv_iadd X.1 X.2.1 dX6_scaled_35 ?_
  obtain ⟨v1, e2, hF⟩ := hp_b hF
  refine hp_ti (Option.some.inj e2) ?_
  refine lv_istore (lv' := [(6, .int v1), (0, .ref x0), (1, .int x1), (2, .int x2), (4, .int x4), (5, .int x5)]) X.1 X.2.1 dX6_scaled_36 hl (by decide) rfl (fun ls hl => ?_)
  refine lv_aload_n X.1 X.2.1 dX6_scaled_38 rfl (lv_at hl 1 rfl) ?_
  refine lv_iload X.1 X.2.1 dX6_scaled_39 (lv_at hl 5 rfl) ?_
  refine lv_iload X.1 X.2.1 dX6_scaled_41 (lv_at hl 0 rfl) ?_
  refine lv_sipush (v := 10000) X.1 X.2.1 dX6_scaled_43 (by decide) ?_
  refine lv_irem X.1 X.2.1 dX6_scaled_46 (by decide) ?_
  obtain ⟨h3, e4, hF⟩ := hp_b hF
  refine hp_iast X Y e4 dX6_scaled_47 (fun H locs Y => ?_)
  refine lv_iload X.1 X.2.1 dX6_scaled_48 (lv_at hl 0 rfl) ?_
  refine lv_sipush (v := 10000) X.1 X.2.1 dX6_scaled_50 (by decide) ?_
  refine lv_idiv X.1 X.2.1 dX6_scaled_53 (by decide) ?_
  obtain ⟨v5, e6, hF⟩ := hp_b hF
  refine hp_ti (Option.some.inj e6) ?_
  refine lv_istore (lv' := [(4, .int v5), (6, .int v1), (0, .ref x0), (1, .int x1), (2, .int x2), (5, .int x5)]) X.1 X.2.1 dX6_scaled_54 hl (by decide) rfl (fun ls hl => ?_)
  obtain ⟨v7, e8, hF⟩ := hp_b hF
  refine lv_iinc (v := v7) (lv' := [(5, .int v7), (4, .int v5), (6, .int v1), (0, .ref x0), (1, .int x1), (2, .int x2)]) X.1 X.2.1 dX6_scaled_56 hl (k := 5) rfl (Option.some.inj e8) (by decide) rfl (fun ls hl => ?_)
  refine lv_goto (tgt := 6) X.1 X.2.1 dX6_scaled_59 (by decide) ?_
  exact hk6 _ _ _  _ _ _ Y (lv_sub hl [3, 4, 5, 1, 0] rfl) hF
set_option maxRecDepth 100000 in
set_option maxHeartbeats 4000000 in
theorem wX6_scaled_17 {p : Program} {l : Launch} {e : Env} {s : State} {m : MethodId} {args : Array Value} {below : List Frame} {meth : Method} {c : Code} {G : hp_G} {h0 h' : hp_H} {r : Int32} (X : hp_X p s m args meth c cX6_scaled 7 RX6 wsX6_scaled (some .int) G) {k6 : Int32 → Int32 → hp_H → Option (Int32 × hp_H)} {x0 : Nat} {x1 : Int32} {x2 : Int32} {x4 : Int32} {x5 : Int32}  (hk6 : ∀ (y4 : Int32) (y5 : Int32) (h : hp_H) (H : Heap) (locs : List Loc) (ls : Array Slot), hp_Y G h h0 s H locs → lv_has ls 7 [(0, .ref x0), (1, .int x1), (2, .int x2), (4, .int y4), (5, .int y5)] → k6 y4 y5 h = some (r, h') → W p l e rmX6_scaled s m args below meth c H locs 0 0 (MQ below (va_Qi (fun r' u => r' = r ∧ u = h') (hp_B G h0) (hp_A h0)) args s 0 0 (hp_A h0)) (F0 m 6 ls [])) {h : hp_H} {H : Heap} {locs : List Loc} {ls : Array Slot} (Y : hp_Y G h h0 s H locs) (hl : lv_has ls 7 [(0, .ref x0), (1, .int x1), (2, .int x2), (4, .int x4), (5, .int x5)]) (hF : bX6_scaled_17 k6 x0 x1 x2 x4 x5 h = some (r, h')) : W p l e rmX6_scaled s m args below meth c H locs 0 0 (MQ below (va_Qi (fun r' u => r' = r ∧ u = h') (hp_B G h0) (hp_A h0)) args s 0 0 (hp_A h0)) (F0 m 17 ls []) := by
  unfold bX6_scaled_17 at hF
  refine lv_iload X.1 X.2.1 dX6_scaled_17 (lv_at hl 4 rfl) ?_
  refine lv_iload_n X.1 X.2.1 dX6_scaled_19 rfl (lv_at hl 1 rfl) ?_
  refine lv_icmp_ge (tgt := 30) X.1 X.2.1 dX6_scaled_20 (by decide) (fun c1 => ?_) (fun c1 => ?_)
  · have hF := hp_ifp (c1) hF
    refine lv_iconst (v := 0) X.1 X.2.1 dX6_scaled_30 (by decide) ?_
    exact wX6_scaled_31 X hk6 Y (lv_sub hl [0, 1, 2, 3, 4] rfl) hF
  · have hF := hp_ifn (c1) hF
    refine lv_aload_n X.1 X.2.1 dX6_scaled_23 rfl (lv_at hl 0 rfl) ?_
    refine lv_iload X.1 X.2.1 dX6_scaled_24 (lv_at hl 4 rfl) ?_
    obtain ⟨v2, e3, hF⟩ := hp_b hF
    refine hp_iald X Y e3 dX6_scaled_26 ?_
    refine lv_goto (tgt := 31) X.1 X.2.1 dX6_scaled_27 (by decide) ?_
    exact wX6_scaled_31 X hk6 Y (lv_sub hl [0, 1, 2, 3, 4] rfl) hF
set_option maxRecDepth 100000 in
set_option maxHeartbeats 4000000 in
theorem wX6_scaled_6 {p : Program} {l : Launch} {e : Env} {s : State} {m : MethodId} {args : Array Value} {below : List Frame} {meth : Method} {c : Code} {G : hp_G} {h0 h' : hp_H} {r : Int32} (X : hp_X p s m args meth c cX6_scaled 7 RX6 wsX6_scaled (some .int) G)  {x0 : Nat} {x1 : Int32} {x2 : Int32}   : ∀ (n : Nat) {x4 : Int32} {x5 : Int32} {h : hp_H} {H : Heap} {locs : List Loc} {ls : Array Slot} (Y : hp_Y G h h0 s H locs) (hl : lv_has ls 7 [(0, .ref x0), (1, .int x1), (2, .int x2), (4, .int x4), (5, .int x5)]) (hF : bX6_scaled_6 x0 x1 x2 n x4 x5 h = some (r, h')), W p l e rmX6_scaled s m args below meth c H locs 0 0 (MQ below (va_Qi (fun r' u => r' = r ∧ u = h') (hp_B G h0) (hp_A h0)) args s 0 0 (hp_A h0)) (F0 m 6 ls []) := by
  intro n
  induction n with
  | zero =>
    intro x4 x5 h H locs ls Y hl hF
    exact absurd (show none = some _ from hF) (by simp)
  | succ n ih =>
    intro x4 x5 h H locs ls Y hl hF
    rw [bX6_scaled_6] at hF
    refine lv_iload X.1 X.2.1 dX6_scaled_6 (lv_at hl 4 rfl) ?_
    refine lv_iload_n X.1 X.2.1 dX6_scaled_8 rfl (lv_at hl 1 rfl) ?_
    refine lv_icmp_lt (tgt := 17) X.1 X.2.1 dX6_scaled_9 (by decide) (fun c1 => ?_) (fun c1 => ?_)
    · have hF := hp_ifp (c1) hF
      exact wX6_scaled_17 X (fun _ _ _ _ _ _ Y hl hF => ih Y hl hF) Y (lv_sub hl [0, 1, 2, 3, 4] rfl) hF
    · have hF := hp_ifn (c1) hF
      refine lv_iload X.1 X.2.1 dX6_scaled_12 (lv_at hl 3 rfl) ?_
      refine lv_if_le (tgt := 62) X.1 X.2.1 dX6_scaled_14 (by decide) (fun c2 => ?_) (fun c2 => ?_)
      · have hF := hp_ifp (c2) hF
        refine lv_iload X.1 X.2.1 dX6_scaled_62 (lv_at hl 4 rfl) ?_
        cases hF
        exact hp_ri X Y rfl rfl dX6_scaled_64
      · have hF := hp_ifn (c2) hF
        exact wX6_scaled_17 X (fun _ _ _ _ _ _ Y hl hF => ih Y hl hF) Y (lv_sub hl [0, 1, 2, 3, 4] rfl) hF
set_option maxRecDepth 100000 in
set_option maxHeartbeats 4000000 in
theorem mX6_scaled (l : Launch) (G : hp_G) {x0 : Nat} {x1 : Int32} {x2 : Int32} {x3 : Int32} {h h' : hp_H} {r : Int32} (hF : fX6_scaled x0 x1 x2 x3 h = some (r, h')) : Met l yX6_scaled wsX6_scaled rmX6_scaled (va_Pc [.ref x0, .int x1, .int x2, .int x3] (hp_S G h)) (va_Qi (fun r' u => r' = r ∧ u = h') (hp_B G h) (hp_A h)) 0 0 (hp_A h) := by
  refine hp_met (cc := cX6_scaled) (nL := 7) (ret := (some .int)) (by decide) rfl ?_
  intro p e s m below meth c X Y
  have hl := lv_entry ([.ref x0, .int x1, .int x2, .int x3]) (n := 7) (Nat.le_of_ble_eq_true rfl)
  rw [lg_entry_eq]
  generalize (lg_sl ([.ref x0, .int x1, .int x2, .int x3]) ++ List.replicate (7 - (lg_sl ([.ref x0, .int x1, .int x2, .int x3])).length) Slot.unset).toArray = ls at hl ⊢
  have hl : lv_has ls 7 [(0, .ref x0), (1, .int x1), (2, .int x2), (3, .int x3)] := hl
  unfold fX6_scaled at hF
  refine lv_iload_n X.1 X.2.1 dX6_scaled_0 rfl (lv_at hl 3 rfl) ?_
  refine lv_istore (lv' := [(4, .int x3), (0, .ref x0), (1, .int x1), (2, .int x2), (3, .int x3)]) X.1 X.2.1 dX6_scaled_1 hl (by decide) rfl (fun ls hl => ?_)
  refine lv_iconst (v := 0) X.1 X.2.1 dX6_scaled_3 (by decide) ?_
  refine lv_istore (lv' := [(5, .int (0 : Int32)), (4, .int x3), (0, .ref x0), (1, .int x1), (2, .int x2), (3, .int x3)]) X.1 X.2.1 dX6_scaled_4 hl (by decide) rfl (fun ls hl => ?_)
  exact wX6_scaled_6 X  hp_n Y (lv_sub hl [2, 3, 4, 1, 0] rfl) hF

/-! WholeNumbersModel.twice -/
def rmX6_twice : Room := { frames := 1, cells := 0, slots := 0, locals := 26 }
def fX6_twice (x0 : Nat) (x1 : Int32) (h : hp_H) : Option (Int32 × hp_H) :=
  (fX6_scaled x0 x1 (2 : Int32) (0 : Int32) h).bind fun (v3, h2) =>
  some (v3, h2)
theorem ndX6_twice : yX6_twice.cls ≠ "java/lang/invoke/MethodHandle" ∧ yX6_twice.cls ≠ "java/lang/invoke/VarHandle" ∧ (parseMethodDescriptor yX6_twice.desc).map (fun d => d.parameters.length) = some 2 := by decide +kernel
set_option maxRecDepth 100000 in
set_option maxHeartbeats 4000000 in
theorem mX6_twice (l : Launch) (G : hp_G) {x0 : Nat} {x1 : Int32} {h h' : hp_H} {r : Int32} (hF : fX6_twice x0 x1 h = some (r, h')) : Met l yX6_twice wsX6_twice rmX6_twice (va_Pc [.ref x0, .int x1] (hp_S G h)) (va_Qi (fun r' u => r' = r ∧ u = h') (hp_B G h) (hp_A h)) 0 0 (hp_A h) := by
  refine hp_met (cc := cX6_twice) (nL := 2) (ret := (some .int)) (by decide) rfl ?_
  intro p e s m below meth c X Y
  have hl := lv_entry ([.ref x0, .int x1]) (n := 2) (Nat.le_of_ble_eq_true rfl)
  rw [lg_entry_eq]
  generalize (lg_sl ([.ref x0, .int x1]) ++ List.replicate (2 - (lg_sl ([.ref x0, .int x1])).length) Slot.unset).toArray = ls at hl ⊢
  have hl : lv_has ls 2 [(0, .ref x0), (1, .int x1)] := hl
  unfold fX6_twice at hF
  refine lv_aload_n X.1 X.2.1 dX6_twice_0 rfl (lv_at hl 0 rfl) ?_
  refine lv_iload_n X.1 X.2.1 dX6_twice_1 rfl (lv_at hl 1 rfl) ?_
  refine lv_iconst (v := 2) X.1 X.2.1 dX6_twice_2 (by decide) ?_
  refine lv_iconst (v := 0) X.1 X.2.1 dX6_twice_3 (by decide) ?_
  obtain ⟨⟨v3, h2⟩, e1, hF⟩ := hp_b hF
  refine hp_ci Y (hp_runS X Y (As := [.ref x0, .int x1, .int (2 : Int32), .int (0 : Int32)]) (n := 4) (mX6_scaled l G e1) gX6_twice_X6_scaled rfl rfl rfl ndX6_scaled ⟨Nat.le_of_ble_eq_true rfl, Nat.le_of_ble_eq_true rfl⟩ rfl hl.1 rfl (Nat.le_of_ble_eq_true rfl) dX6_twice_4 ⟨Nat.zero_le _, Nat.zero_le _⟩) (fun H locs Y => ?_)
  cases hF
  exact hp_ri X Y rfl rfl dX6_twice_7

/-! WholeNumbersModel.half -/
def rmX6_half : Room := { frames := 1, cells := 0, slots := 0, locals := 22 }
def bX6_half_6  (x0 : Nat) (x1 : Int32) : Nat → Int32 → Int32 → hp_H → Option (Int32 × hp_H)
  | 0, _, _, _ => none
  | n + 1, x2, x3, h =>
  if x3 < 0 then (
    (fX6_shortened x0 x1 h).bind fun v3 =>
    some (v3, h))
  else (
    (hp_ai h 0 x0 x3).bind fun v4 =>
    (some ((x2 * (10000 : Int32)) + v4)).bind fun v6 =>
    (hp_si h 0 x0 x3 (v6 / (2 : Int32))).bind fun h8 =>
    (some (hp_irem v6 (2 : Int32))).bind fun v10 =>
    (some (x3 + (-1 : Int32))).bind fun v12 =>
    bX6_half_6 x0 x1 n v10 v12 h8)
def fX6_half (x0 : Nat) (x1 : Int32) (h : hp_H) : Option (Int32 × hp_H) :=
  (some (x1 - (1 : Int32))).bind fun v1 =>
  bX6_half_6 x0 x1 hp_n (0 : Int32) v1 h
theorem ndX6_half : yX6_half.cls ≠ "java/lang/invoke/MethodHandle" ∧ yX6_half.cls ≠ "java/lang/invoke/VarHandle" ∧ (parseMethodDescriptor yX6_half.desc).map (fun d => d.parameters.length) = some 2 := by decide +kernel
set_option maxRecDepth 100000 in
set_option maxHeartbeats 4000000 in
theorem wX6_half_6 {p : Program} {l : Launch} {e : Env} {s : State} {m : MethodId} {args : Array Value} {below : List Frame} {meth : Method} {c : Code} {G : hp_G} {h0 h' : hp_H} {r : Int32} (X : hp_X p s m args meth c cX6_half 5 RX6 wsX6_half (some .int) G)  {x0 : Nat} {x1 : Int32}   : ∀ (n : Nat) {x2 : Int32} {x3 : Int32} {h : hp_H} {H : Heap} {locs : List Loc} {ls : Array Slot} (Y : hp_Y G h h0 s H locs) (hl : lv_has ls 5 [(0, .ref x0), (1, .int x1), (2, .int x2), (3, .int x3)]) (hF : bX6_half_6 x0 x1 n x2 x3 h = some (r, h')), W p l e rmX6_half s m args below meth c H locs 0 0 (MQ below (va_Qi (fun r' u => r' = r ∧ u = h') (hp_B G h0) (hp_A h0)) args s 0 0 (hp_A h0)) (F0 m 6 ls []) := by
  intro n
  induction n with
  | zero =>
    intro x2 x3 h H locs ls Y hl hF
    exact absurd (show none = some _ from hF) (by simp)
  | succ n ih =>
    intro x2 x3 h H locs ls Y hl hF
    rw [bX6_half_6] at hF
    refine lv_iload_n X.1 X.2.1 dX6_half_6 rfl (lv_at hl 3 rfl) ?_
    refine lv_if_lt (tgt := 39) X.1 X.2.1 dX6_half_7 (by decide) (fun c1 => ?_) (fun c1 => ?_)
    · have hF := hp_ifp (c1) hF
      refine lv_aload_n X.1 X.2.1 dX6_half_39 rfl (lv_at hl 0 rfl) ?_
      refine lv_iload_n X.1 X.2.1 dX6_half_40 rfl (lv_at hl 1 rfl) ?_
      obtain ⟨v3, e2, hF⟩ := hp_b hF
      refine hp_ci Y (hp_runS X Y (As := [.ref x0, .int x1]) (n := 2) (mX6_shortened l G e2) gX6_half_X6_shortened rfl rfl rfl ndX6_shortened ⟨Nat.le_of_ble_eq_true rfl, Nat.le_of_ble_eq_true rfl⟩ rfl hl.1 rfl (Nat.le_of_ble_eq_true rfl) dX6_half_41 ⟨Nat.zero_le _, Nat.zero_le _⟩) (fun H locs Y => ?_)
      cases hF
      exact hp_ri X Y rfl rfl dX6_half_44
    · have hF := hp_ifn (c1) hF
      refine lv_iload_n X.1 X.2.1 dX6_half_10 rfl (lv_at hl 2 rfl) ?_
      refine lv_sipush (v := 10000) X.1 X.2.1 dX6_half_11 (by decide) ?_
      refine lv_imul X.1 X.2.1 dX6_half_14 ?_
      refine lv_aload_n X.1 X.2.1 dX6_half_15 rfl (lv_at hl 0 rfl) ?_
      refine lv_iload_n X.1 X.2.1 dX6_half_16 rfl (lv_at hl 3 rfl) ?_
      obtain ⟨v4, e5, hF⟩ := hp_b hF
      refine hp_iald X Y e5 dX6_half_17 ?_
      refine lv_iadd X.1 X.2.1 dX6_half_18 ?_
      obtain ⟨v6, e7, hF⟩ := hp_b hF
      refine hp_ti (Option.some.inj e7) ?_
      refine lv_istore (lv' := [(4, .int v6), (0, .ref x0), (1, .int x1), (2, .int x2), (3, .int x3)]) X.1 X.2.1 dX6_half_19 hl (by decide) rfl (fun ls hl => ?_)
      refine lv_aload_n X.1 X.2.1 dX6_half_21 rfl (lv_at hl 1 rfl) ?_
      refine lv_iload_n X.1 X.2.1 dX6_half_22 rfl (lv_at hl 4 rfl) ?_
      refine lv_iload X.1 X.2.1 dX6_half_23 (lv_at hl 0 rfl) ?_
      refine lv_iconst (v := 2) X.1 X.2.1 dX6_half_25 (by decide) ?_
      refine lv_idiv X.1 X.2.1 dX6_half_26 (by decide) ?_
      obtain ⟨h8, e9, hF⟩ := hp_b hF
      refine hp_iast X Y e9 dX6_half_27 (fun H locs Y => ?_)
      refine lv_iload X.1 X.2.1 dX6_half_28 (lv_at hl 0 rfl) ?_
      refine lv_iconst (v := 2) X.1 X.2.1 dX6_half_30 (by decide) ?_
      refine lv_irem X.1 X.2.1 dX6_half_31 (by decide) ?_
      obtain ⟨v10, e11, hF⟩ := hp_b hF
      refine hp_ti (Option.some.inj e11) ?_
      refine lv_istore_n (lv' := [(2, .int v10), (4, .int v6), (0, .ref x0), (1, .int x1), (3, .int x3)]) X.1 X.2.1 dX6_half_32 rfl hl (by decide) rfl (fun ls hl => ?_)
      obtain ⟨v12, e13, hF⟩ := hp_b hF
      refine lv_iinc (v := v12) (lv' := [(3, .int v12), (2, .int v10), (4, .int v6), (0, .ref x0), (1, .int x1)]) X.1 X.2.1 dX6_half_33 hl (k := 4) rfl (Option.some.inj e13) (by decide) rfl (fun ls hl => ?_)
      refine lv_goto (tgt := 6) X.1 X.2.1 dX6_half_36 (by decide) ?_
      exact ih Y (lv_sub hl [3, 4, 1, 0] rfl) hF
set_option maxRecDepth 100000 in
set_option maxHeartbeats 4000000 in
theorem mX6_half (l : Launch) (G : hp_G) {x0 : Nat} {x1 : Int32} {h h' : hp_H} {r : Int32} (hF : fX6_half x0 x1 h = some (r, h')) : Met l yX6_half wsX6_half rmX6_half (va_Pc [.ref x0, .int x1] (hp_S G h)) (va_Qi (fun r' u => r' = r ∧ u = h') (hp_B G h) (hp_A h)) 0 0 (hp_A h) := by
  refine hp_met (cc := cX6_half) (nL := 5) (ret := (some .int)) (by decide) rfl ?_
  intro p e s m below meth c X Y
  have hl := lv_entry ([.ref x0, .int x1]) (n := 5) (Nat.le_of_ble_eq_true rfl)
  rw [lg_entry_eq]
  generalize (lg_sl ([.ref x0, .int x1]) ++ List.replicate (5 - (lg_sl ([.ref x0, .int x1])).length) Slot.unset).toArray = ls at hl ⊢
  have hl : lv_has ls 5 [(0, .ref x0), (1, .int x1)] := hl
  unfold fX6_half at hF
  refine lv_iconst (v := 0) X.1 X.2.1 dX6_half_0 (by decide) ?_
  refine lv_istore_n (lv' := [(2, .int (0 : Int32)), (0, .ref x0), (1, .int x1)]) X.1 X.2.1 dX6_half_1 rfl hl (by decide) rfl (fun ls hl => ?_)
  refine lv_iload_n X.1 X.2.1 dX6_half_2 rfl (lv_at hl 2 rfl) ?_
  refine lv_iconst (v := 1) X.1 X.2.1 dX6_half_3 (by decide) ?_
  refine lv_isub X.1 X.2.1 dX6_half_4 ?_
  obtain ⟨v1, e2, hF⟩ := hp_b hF
  refine hp_ti (Option.some.inj e2) ?_
  refine lv_istore_n (lv' := [(3, .int v1), (2, .int (0 : Int32)), (0, .ref x0), (1, .int x1)]) X.1 X.2.1 dX6_half_5 rfl hl (by decide) rfl (fun ls hl => ?_)
  exact wX6_half_6 X  hp_n Y (lv_sub hl [2, 3, 1, 0] rfl) hF

/-! WholeNumbersModel.added -/
def rmX6_added : Room := { frames := 0, cells := 0, slots := 0, locals := 0 }
def bX6_added_51 (k6 : Int32 → Int32 → hp_H → Option (Int32 × hp_H)) (x0 : Nat) (x1 : Int32) (x2 : Nat) (x3 : Int32) (x4 : Int32) (x5 : Int32) (t0 : Int32) (t1 : Int32) (h : hp_H) : Option (Int32 × hp_H) :=
  (some ((t0 + t1) + x4)).bind fun v1 =>
  (hp_si h 0 x0 x5 (hp_irem v1 (10000 : Int32))).bind fun h3 =>
  (some (v1 / (10000 : Int32))).bind fun v5 =>
  (some (x5 + (1 : Int32))).bind fun v7 =>
  k6 v5 v7 h3
def bX6_added_37 (k6 : Int32 → Int32 → hp_H → Option (Int32 × hp_H)) (x0 : Nat) (x1 : Int32) (x2 : Nat) (x3 : Int32) (x4 : Int32) (x5 : Int32) (t0 : Int32) (h : hp_H) : Option (Int32 × hp_H) :=
  if x3 ≤ x5 then (
    bX6_added_51 k6 x0 x1 x2 x3 x4 x5 t0 (0 : Int32) h)
  else (
    (hp_ai h 0 x2 x5).bind fun v2 =>
    bX6_added_51 k6 x0 x1 x2 x3 x4 x5 t0 v2 h)
def bX6_added_23 (k6 : Int32 → Int32 → hp_H → Option (Int32 × hp_H)) (x0 : Nat) (x1 : Int32) (x2 : Nat) (x3 : Int32) (x4 : Int32) (x5 : Int32)  (h : hp_H) : Option (Int32 × hp_H) :=
  if x1 ≤ x5 then (
    bX6_added_37 k6 x0 x1 x2 x3 x4 x5 (0 : Int32) h)
  else (
    (hp_ai h 0 x0 x5).bind fun v2 =>
    bX6_added_37 k6 x0 x1 x2 x3 x4 x5 v2 h)
def bX6_added_6  (x0 : Nat) (x1 : Int32) (x2 : Nat) (x3 : Int32) : Nat → Int32 → Int32 → hp_H → Option (Int32 × hp_H)
  | 0, _, _, _ => none
  | n + 1, x4, x5, h =>
  if x5 < x1 then (
    bX6_added_23 (bX6_added_6 x0 x1 x2 x3 n) x0 x1 x2 x3 x4 x5 h)
  else (
    if x5 < x3 then (
      bX6_added_23 (bX6_added_6 x0 x1 x2 x3 n) x0 x1 x2 x3 x4 x5 h)
    else (
      if x4 ≤ 0 then (
        some (x5, h))
      else (
        bX6_added_23 (bX6_added_6 x0 x1 x2 x3 n) x0 x1 x2 x3 x4 x5 h)))
def fX6_added (x0 : Nat) (x1 : Int32) (x2 : Nat) (x3 : Int32) (h : hp_H) : Option (Int32 × hp_H) :=
  bX6_added_6 x0 x1 x2 x3 hp_n (0 : Int32) (0 : Int32) h
theorem ndX6_added : yX6_added.cls ≠ "java/lang/invoke/MethodHandle" ∧ yX6_added.cls ≠ "java/lang/invoke/VarHandle" ∧ (parseMethodDescriptor yX6_added.desc).map (fun d => d.parameters.length) = some 4 := by decide +kernel
set_option maxRecDepth 100000 in
set_option maxHeartbeats 4000000 in
theorem wX6_added_51 {p : Program} {l : Launch} {e : Env} {s : State} {m : MethodId} {args : Array Value} {below : List Frame} {meth : Method} {c : Code} {G : hp_G} {h0 h' : hp_H} {r : Int32} (X : hp_X p s m args meth c cX6_added 7 RX6 wsX6_added (some .int) G) {k6 : Int32 → Int32 → hp_H → Option (Int32 × hp_H)} {x0 : Nat} {x1 : Int32} {x2 : Nat} {x3 : Int32} {x4 : Int32} {x5 : Int32}  (hk6 : ∀ (y4 : Int32) (y5 : Int32) (h : hp_H) (H : Heap) (locs : List Loc) (ls : Array Slot), hp_Y G h h0 s H locs → lv_has ls 7 [(0, .ref x0), (1, .int x1), (2, .ref x2), (3, .int x3), (4, .int y4), (5, .int y5)] → k6 y4 y5 h = some (r, h') → W p l e rmX6_added s m args below meth c H locs 0 0 (MQ below (va_Qi (fun r' u => r' = r ∧ u = h') (hp_B G h0) (hp_A h0)) args s 0 0 (hp_A h0)) (F0 m 6 ls [])) {t0 : Int32} {t1 : Int32} {h : hp_H} {H : Heap} {locs : List Loc} {ls : Array Slot} (Y : hp_Y G h h0 s H locs) (hl : lv_has ls 7 [(0, .ref x0), (1, .int x1), (2, .ref x2), (3, .int x3), (4, .int x4), (5, .int x5)]) (hF : bX6_added_51 k6 x0 x1 x2 x3 x4 x5 t0 t1 h = some (r, h')) : W p l e rmX6_added s m args below meth c H locs 0 0 (MQ below (va_Qi (fun r' u => r' = r ∧ u = h') (hp_B G h0) (hp_A h0)) args s 0 0 (hp_A h0)) (F0 m 51 ls [.int t1, .int t0]) := by
  unfold bX6_added_51 at hF
  refine lv_iadd X.1 X.2.1 dX6_added_51 ?_
  refine lv_iload X.1 X.2.1 dX6_added_52 (lv_at hl 4 rfl) ?_
  refine lv_iadd X.1 X.2.1 dX6_added_54 ?_
  obtain ⟨v1, e2, hF⟩ := hp_b hF
  refine hp_ti (Option.some.inj e2) ?_
  refine lv_istore (lv' := [(6, .int v1), (0, .ref x0), (1, .int x1), (2, .ref x2), (3, .int x3), (4, .int x4), (5, .int x5)]) X.1 X.2.1 dX6_added_55 hl (by decide) rfl (fun ls hl => ?_)
  refine lv_aload_n X.1 X.2.1 dX6_added_57 rfl (lv_at hl 1 rfl) ?_
  refine lv_iload X.1 X.2.1 dX6_added_58 (lv_at hl 6 rfl) ?_
  refine lv_iload X.1 X.2.1 dX6_added_60 (lv_at hl 0 rfl) ?_
  refine lv_sipush (v := 10000) X.1 X.2.1 dX6_added_62 (by decide) ?_
  refine lv_irem X.1 X.2.1 dX6_added_65 (by decide) ?_
  obtain ⟨h3, e4, hF⟩ := hp_b hF
  refine hp_iast X Y e4 dX6_added_66 (fun H locs Y => ?_)
  refine lv_iload X.1 X.2.1 dX6_added_67 (lv_at hl 0 rfl) ?_
  refine lv_sipush (v := 10000) X.1 X.2.1 dX6_added_69 (by decide) ?_
  refine lv_idiv X.1 X.2.1 dX6_added_72 (by decide) ?_
  obtain ⟨v5, e6, hF⟩ := hp_b hF
  refine hp_ti (Option.some.inj e6) ?_
  refine lv_istore (lv' := [(4, .int v5), (6, .int v1), (0, .ref x0), (1, .int x1), (2, .ref x2), (3, .int x3), (5, .int x5)]) X.1 X.2.1 dX6_added_73 hl (by decide) rfl (fun ls hl => ?_)
  obtain ⟨v7, e8, hF⟩ := hp_b hF
  refine lv_iinc (v := v7) (lv' := [(5, .int v7), (4, .int v5), (6, .int v1), (0, .ref x0), (1, .int x1), (2, .ref x2), (3, .int x3)]) X.1 X.2.1 dX6_added_75 hl (k := 6) rfl (Option.some.inj e8) (by decide) rfl (fun ls hl => ?_)
  refine lv_goto (tgt := 6) X.1 X.2.1 dX6_added_78 (by decide) ?_
  exact hk6 _ _ _  _ _ _ Y (lv_sub hl [3, 4, 5, 6, 1, 0] rfl) hF
set_option maxRecDepth 100000 in
set_option maxHeartbeats 4000000 in
theorem wX6_added_37 {p : Program} {l : Launch} {e : Env} {s : State} {m : MethodId} {args : Array Value} {below : List Frame} {meth : Method} {c : Code} {G : hp_G} {h0 h' : hp_H} {r : Int32} (X : hp_X p s m args meth c cX6_added 7 RX6 wsX6_added (some .int) G) {k6 : Int32 → Int32 → hp_H → Option (Int32 × hp_H)} {x0 : Nat} {x1 : Int32} {x2 : Nat} {x3 : Int32} {x4 : Int32} {x5 : Int32}  (hk6 : ∀ (y4 : Int32) (y5 : Int32) (h : hp_H) (H : Heap) (locs : List Loc) (ls : Array Slot), hp_Y G h h0 s H locs → lv_has ls 7 [(0, .ref x0), (1, .int x1), (2, .ref x2), (3, .int x3), (4, .int y4), (5, .int y5)] → k6 y4 y5 h = some (r, h') → W p l e rmX6_added s m args below meth c H locs 0 0 (MQ below (va_Qi (fun r' u => r' = r ∧ u = h') (hp_B G h0) (hp_A h0)) args s 0 0 (hp_A h0)) (F0 m 6 ls [])) {t0 : Int32} {h : hp_H} {H : Heap} {locs : List Loc} {ls : Array Slot} (Y : hp_Y G h h0 s H locs) (hl : lv_has ls 7 [(0, .ref x0), (1, .int x1), (2, .ref x2), (3, .int x3), (4, .int x4), (5, .int x5)]) (hF : bX6_added_37 k6 x0 x1 x2 x3 x4 x5 t0 h = some (r, h')) : W p l e rmX6_added s m args below meth c H locs 0 0 (MQ below (va_Qi (fun r' u => r' = r ∧ u = h') (hp_B G h0) (hp_A h0)) args s 0 0 (hp_A h0)) (F0 m 37 ls [.int t0]) := by
  unfold bX6_added_37 at hF
  refine lv_iload X.1 X.2.1 dX6_added_37 (lv_at hl 5 rfl) ?_
  refine lv_iload_n X.1 X.2.1 dX6_added_39 rfl (lv_at hl 3 rfl) ?_
  refine lv_icmp_ge (tgt := 50) X.1 X.2.1 dX6_added_40 (by decide) (fun c1 => ?_) (fun c1 => ?_)
  · have hF := hp_ifp (c1) hF
    refine lv_iconst (v := 0) X.1 X.2.1 dX6_added_50 (by decide) ?_
    exact wX6_added_51 X hk6 Y (lv_sub hl [0, 1, 2, 3, 4, 5] rfl) hF
  · have hF := hp_ifn (c1) hF
    refine lv_aload_n X.1 X.2.1 dX6_added_43 rfl (lv_at hl 2 rfl) ?_
    refine lv_iload X.1 X.2.1 dX6_added_44 (lv_at hl 5 rfl) ?_
    obtain ⟨v2, e3, hF⟩ := hp_b hF
    refine hp_iald X Y e3 dX6_added_46 ?_
    refine lv_goto (tgt := 51) X.1 X.2.1 dX6_added_47 (by decide) ?_
    exact wX6_added_51 X hk6 Y (lv_sub hl [0, 1, 2, 3, 4, 5] rfl) hF
set_option maxRecDepth 100000 in
set_option maxHeartbeats 4000000 in
theorem wX6_added_23 {p : Program} {l : Launch} {e : Env} {s : State} {m : MethodId} {args : Array Value} {below : List Frame} {meth : Method} {c : Code} {G : hp_G} {h0 h' : hp_H} {r : Int32} (X : hp_X p s m args meth c cX6_added 7 RX6 wsX6_added (some .int) G) {k6 : Int32 → Int32 → hp_H → Option (Int32 × hp_H)} {x0 : Nat} {x1 : Int32} {x2 : Nat} {x3 : Int32} {x4 : Int32} {x5 : Int32}  (hk6 : ∀ (y4 : Int32) (y5 : Int32) (h : hp_H) (H : Heap) (locs : List Loc) (ls : Array Slot), hp_Y G h h0 s H locs → lv_has ls 7 [(0, .ref x0), (1, .int x1), (2, .ref x2), (3, .int x3), (4, .int y4), (5, .int y5)] → k6 y4 y5 h = some (r, h') → W p l e rmX6_added s m args below meth c H locs 0 0 (MQ below (va_Qi (fun r' u => r' = r ∧ u = h') (hp_B G h0) (hp_A h0)) args s 0 0 (hp_A h0)) (F0 m 6 ls [])) {h : hp_H} {H : Heap} {locs : List Loc} {ls : Array Slot} (Y : hp_Y G h h0 s H locs) (hl : lv_has ls 7 [(0, .ref x0), (1, .int x1), (2, .ref x2), (3, .int x3), (4, .int x4), (5, .int x5)]) (hF : bX6_added_23 k6 x0 x1 x2 x3 x4 x5 h = some (r, h')) : W p l e rmX6_added s m args below meth c H locs 0 0 (MQ below (va_Qi (fun r' u => r' = r ∧ u = h') (hp_B G h0) (hp_A h0)) args s 0 0 (hp_A h0)) (F0 m 23 ls []) := by
  unfold bX6_added_23 at hF
  refine lv_iload X.1 X.2.1 dX6_added_23 (lv_at hl 5 rfl) ?_
  refine lv_iload_n X.1 X.2.1 dX6_added_25 rfl (lv_at hl 1 rfl) ?_
  refine lv_icmp_ge (tgt := 36) X.1 X.2.1 dX6_added_26 (by decide) (fun c1 => ?_) (fun c1 => ?_)
  · have hF := hp_ifp (c1) hF
    refine lv_iconst (v := 0) X.1 X.2.1 dX6_added_36 (by decide) ?_
    exact wX6_added_37 X hk6 Y (lv_sub hl [0, 1, 2, 3, 4, 5] rfl) hF
  · have hF := hp_ifn (c1) hF
    refine lv_aload_n X.1 X.2.1 dX6_added_29 rfl (lv_at hl 0 rfl) ?_
    refine lv_iload X.1 X.2.1 dX6_added_30 (lv_at hl 5 rfl) ?_
    obtain ⟨v2, e3, hF⟩ := hp_b hF
    refine hp_iald X Y e3 dX6_added_32 ?_
    refine lv_goto (tgt := 37) X.1 X.2.1 dX6_added_33 (by decide) ?_
    exact wX6_added_37 X hk6 Y (lv_sub hl [0, 1, 2, 3, 4, 5] rfl) hF
set_option maxRecDepth 100000 in
set_option maxHeartbeats 4000000 in
theorem wX6_added_6 {p : Program} {l : Launch} {e : Env} {s : State} {m : MethodId} {args : Array Value} {below : List Frame} {meth : Method} {c : Code} {G : hp_G} {h0 h' : hp_H} {r : Int32} (X : hp_X p s m args meth c cX6_added 7 RX6 wsX6_added (some .int) G)  {x0 : Nat} {x1 : Int32} {x2 : Nat} {x3 : Int32}   : ∀ (n : Nat) {x4 : Int32} {x5 : Int32} {h : hp_H} {H : Heap} {locs : List Loc} {ls : Array Slot} (Y : hp_Y G h h0 s H locs) (hl : lv_has ls 7 [(0, .ref x0), (1, .int x1), (2, .ref x2), (3, .int x3), (4, .int x4), (5, .int x5)]) (hF : bX6_added_6 x0 x1 x2 x3 n x4 x5 h = some (r, h')), W p l e rmX6_added s m args below meth c H locs 0 0 (MQ below (va_Qi (fun r' u => r' = r ∧ u = h') (hp_B G h0) (hp_A h0)) args s 0 0 (hp_A h0)) (F0 m 6 ls []) := by
  intro n
  induction n with
  | zero =>
    intro x4 x5 h H locs ls Y hl hF
    exact absurd (show none = some _ from hF) (by simp)
  | succ n ih =>
    intro x4 x5 h H locs ls Y hl hF
    rw [bX6_added_6] at hF
    refine lv_iload X.1 X.2.1 dX6_added_6 (lv_at hl 5 rfl) ?_
    refine lv_iload_n X.1 X.2.1 dX6_added_8 rfl (lv_at hl 1 rfl) ?_
    refine lv_icmp_lt (tgt := 23) X.1 X.2.1 dX6_added_9 (by decide) (fun c1 => ?_) (fun c1 => ?_)
    · have hF := hp_ifp (c1) hF
      exact wX6_added_23 X (fun _ _ _ _ _ _ Y hl hF => ih Y hl hF) Y (lv_sub hl [0, 1, 2, 3, 4, 5] rfl) hF
    · have hF := hp_ifn (c1) hF
      refine lv_iload X.1 X.2.1 dX6_added_12 (lv_at hl 5 rfl) ?_
      refine lv_iload_n X.1 X.2.1 dX6_added_14 rfl (lv_at hl 3 rfl) ?_
      refine lv_icmp_lt (tgt := 23) X.1 X.2.1 dX6_added_15 (by decide) (fun c2 => ?_) (fun c2 => ?_)
      · have hF := hp_ifp (c2) hF
        exact wX6_added_23 X (fun _ _ _ _ _ _ Y hl hF => ih Y hl hF) Y (lv_sub hl [0, 1, 2, 3, 4, 5] rfl) hF
      · have hF := hp_ifn (c2) hF
        refine lv_iload X.1 X.2.1 dX6_added_18 (lv_at hl 4 rfl) ?_
        refine lv_if_le (tgt := 81) X.1 X.2.1 dX6_added_20 (by decide) (fun c3 => ?_) (fun c3 => ?_)
        · have hF := hp_ifp (c3) hF
          refine lv_iload X.1 X.2.1 dX6_added_81 (lv_at hl 5 rfl) ?_
          cases hF
          exact hp_ri X Y rfl rfl dX6_added_83
        · have hF := hp_ifn (c3) hF
          exact wX6_added_23 X (fun _ _ _ _ _ _ Y hl hF => ih Y hl hF) Y (lv_sub hl [0, 1, 2, 3, 4, 5] rfl) hF
set_option maxRecDepth 100000 in
set_option maxHeartbeats 4000000 in
theorem mX6_added (l : Launch) (G : hp_G) {x0 : Nat} {x1 : Int32} {x2 : Nat} {x3 : Int32} {h h' : hp_H} {r : Int32} (hF : fX6_added x0 x1 x2 x3 h = some (r, h')) : Met l yX6_added wsX6_added rmX6_added (va_Pc [.ref x0, .int x1, .ref x2, .int x3] (hp_S G h)) (va_Qi (fun r' u => r' = r ∧ u = h') (hp_B G h) (hp_A h)) 0 0 (hp_A h) := by
  refine hp_met (cc := cX6_added) (nL := 7) (ret := (some .int)) (by decide) rfl ?_
  intro p e s m below meth c X Y
  have hl := lv_entry ([.ref x0, .int x1, .ref x2, .int x3]) (n := 7) (Nat.le_of_ble_eq_true rfl)
  rw [lg_entry_eq]
  generalize (lg_sl ([.ref x0, .int x1, .ref x2, .int x3]) ++ List.replicate (7 - (lg_sl ([.ref x0, .int x1, .ref x2, .int x3])).length) Slot.unset).toArray = ls at hl ⊢
  have hl : lv_has ls 7 [(0, .ref x0), (1, .int x1), (2, .ref x2), (3, .int x3)] := hl
  unfold fX6_added at hF
  refine lv_iconst (v := 0) X.1 X.2.1 dX6_added_0 (by decide) ?_
  refine lv_istore (lv' := [(4, .int (0 : Int32)), (0, .ref x0), (1, .int x1), (2, .ref x2), (3, .int x3)]) X.1 X.2.1 dX6_added_1 hl (by decide) rfl (fun ls hl => ?_)
  refine lv_iconst (v := 0) X.1 X.2.1 dX6_added_3 (by decide) ?_
  refine lv_istore (lv' := [(5, .int (0 : Int32)), (4, .int (0 : Int32)), (0, .ref x0), (1, .int x1), (2, .ref x2), (3, .int x3)]) X.1 X.2.1 dX6_added_4 hl (by decide) rfl (fun ls hl => ?_)
  exact wX6_added_6 X  hp_n Y (lv_sub hl [2, 3, 4, 5, 1, 0] rfl) hF

/-! WholeNumbersModel.taken -/
def rmX6_taken : Room := { frames := 1, cells := 0, slots := 0, locals := 22 }
def bX6_taken_46 (k6 : Int32 → Int32 → hp_H → Option (Int32 × hp_H)) (x0 : Nat) (x1 : Int32) (x2 : Nat) (x3 : Int32) (x5 : Int32) (x6 : Int32) (t0 : Int32) (h : hp_H) : Option (Int32 × hp_H) :=
  (hp_si h 0 x0 x5 (x6 + (t0 * (10000 : Int32)))).bind fun h1 =>
  (some (x5 + (1 : Int32))).bind fun v3 =>
  k6 t0 v3 h1
def bX6_taken_33 (k6 : Int32 → Int32 → hp_H → Option (Int32 × hp_H)) (x0 : Nat) (x1 : Int32) (x2 : Nat) (x3 : Int32) (x5 : Int32) (t0 : Int32) (t1 : Int32) (h : hp_H) : Option (Int32 × hp_H) :=
  (some (t0 - t1)).bind fun v1 =>
  if 0 ≤ v1 then (
    bX6_taken_46 k6 x0 x1 x2 x3 x5 v1 (0 : Int32) h)
  else (
    bX6_taken_46 k6 x0 x1 x2 x3 x5 v1 (1 : Int32) h)
def bX6_taken_6  (x0 : Nat) (x1 : Int32) (x2 : Nat) (x3 : Int32) : Nat → Int32 → Int32 → hp_H → Option (Int32 × hp_H)
  | 0, _, _, _ => none
  | n + 1, x4, x5, h =>
  if x1 ≤ x5 then (
    (fX6_shortened x0 x1 h).bind fun v3 =>
    some (v3, h))
  else (
    (hp_ai h 0 x0 x5).bind fun v4 =>
    if x3 ≤ x5 then (
      bX6_taken_33 (bX6_taken_6 x0 x1 x2 x3 n) x0 x1 x2 x3 x5 (v4 - x4) (0 : Int32) h)
    else (
      (hp_ai h 0 x2 x5).bind fun v7 =>
      bX6_taken_33 (bX6_taken_6 x0 x1 x2 x3 n) x0 x1 x2 x3 x5 (v4 - x4) v7 h))
def fX6_taken (x0 : Nat) (x1 : Int32) (x2 : Nat) (x3 : Int32) (h : hp_H) : Option (Int32 × hp_H) :=
  bX6_taken_6 x0 x1 x2 x3 hp_n (0 : Int32) (0 : Int32) h
theorem ndX6_taken : yX6_taken.cls ≠ "java/lang/invoke/MethodHandle" ∧ yX6_taken.cls ≠ "java/lang/invoke/VarHandle" ∧ (parseMethodDescriptor yX6_taken.desc).map (fun d => d.parameters.length) = some 4 := by decide +kernel
set_option maxRecDepth 100000 in
set_option maxHeartbeats 4000000 in
theorem wX6_taken_46 {p : Program} {l : Launch} {e : Env} {s : State} {m : MethodId} {args : Array Value} {below : List Frame} {meth : Method} {c : Code} {G : hp_G} {h0 h' : hp_H} {r : Int32} (X : hp_X p s m args meth c cX6_taken 7 RX6 wsX6_taken (some .int) G) {k6 : Int32 → Int32 → hp_H → Option (Int32 × hp_H)} {x0 : Nat} {x1 : Int32} {x2 : Nat} {x3 : Int32} {x5 : Int32} {x6 : Int32}  (hk6 : ∀ (y4 : Int32) (y5 : Int32) (h : hp_H) (H : Heap) (locs : List Loc) (ls : Array Slot), hp_Y G h h0 s H locs → lv_has ls 7 [(0, .ref x0), (1, .int x1), (2, .ref x2), (3, .int x3), (4, .int y4), (5, .int y5)] → k6 y4 y5 h = some (r, h') → W p l e rmX6_taken s m args below meth c H locs 0 0 (MQ below (va_Qi (fun r' u => r' = r ∧ u = h') (hp_B G h0) (hp_A h0)) args s 0 0 (hp_A h0)) (F0 m 6 ls [])) {t0 : Int32} {h : hp_H} {H : Heap} {locs : List Loc} {ls : Array Slot} (Y : hp_Y G h h0 s H locs) (hl : lv_has ls 7 [(0, .ref x0), (1, .int x1), (2, .ref x2), (3, .int x3), (5, .int x5), (6, .int x6)]) (hF : bX6_taken_46 k6 x0 x1 x2 x3 x5 x6 t0 h = some (r, h')) : W p l e rmX6_taken s m args below meth c H locs 0 0 (MQ below (va_Qi (fun r' u => r' = r ∧ u = h') (hp_B G h0) (hp_A h0)) args s 0 0 (hp_A h0)) (F0 m 46 ls [.int t0]) := by
  unfold bX6_taken_46 at hF
  refine lv_istore (lv' := [(4, .int t0), (0, .ref x0), (1, .int x1), (2, .ref x2), (3, .int x3), (5, .int x5), (6, .int x6)]) X.1 X.2.1 dX6_taken_46 hl (by decide) rfl (fun ls hl => ?_)
  refine lv_aload_n X.1 X.2.1 dX6_taken_48 rfl (lv_at hl 1 rfl) ?_
  refine lv_iload X.1 X.2.1 dX6_taken_49 (lv_at hl 5 rfl) ?_
  refine lv_iload X.1 X.2.1 dX6_taken_51 (lv_at hl 6 rfl) ?_
  refine lv_iload X.1 X.2.1 dX6_taken_53 (lv_at hl 0 rfl) ?_
  refine lv_sipush (v := 10000) X.1 X.2.1 dX6_taken_55 (by decide) ?_
  refine lv_imul X.1 X.2.1 dX6_taken_58 ?_
  refine lv_iadd X.1 X.2.1 dX6_taken_59 ?_
  obtain ⟨h1, e2, hF⟩ := hp_b hF
  refine hp_iast X Y e2 dX6_taken_60 (fun H locs Y => ?_)
  obtain ⟨v3, e4, hF⟩ := hp_b hF
  refine lv_iinc (v := v3) (lv' := [(5, .int v3), (4, .int t0), (0, .ref x0), (1, .int x1), (2, .ref x2), (3, .int x3), (6, .int x6)]) X.1 X.2.1 dX6_taken_61 hl (k := 5) rfl (Option.some.inj e4) (by decide) rfl (fun ls hl => ?_)
  refine lv_goto (tgt := 6) X.1 X.2.1 dX6_taken_64 (by decide) ?_
  exact hk6 _ _ _  _ _ _ Y (lv_sub hl [2, 3, 4, 5, 1, 0] rfl) hF
set_option maxRecDepth 100000 in
set_option maxHeartbeats 4000000 in
theorem wX6_taken_33 {p : Program} {l : Launch} {e : Env} {s : State} {m : MethodId} {args : Array Value} {below : List Frame} {meth : Method} {c : Code} {G : hp_G} {h0 h' : hp_H} {r : Int32} (X : hp_X p s m args meth c cX6_taken 7 RX6 wsX6_taken (some .int) G) {k6 : Int32 → Int32 → hp_H → Option (Int32 × hp_H)} {x0 : Nat} {x1 : Int32} {x2 : Nat} {x3 : Int32} {x5 : Int32}  (hk6 : ∀ (y4 : Int32) (y5 : Int32) (h : hp_H) (H : Heap) (locs : List Loc) (ls : Array Slot), hp_Y G h h0 s H locs → lv_has ls 7 [(0, .ref x0), (1, .int x1), (2, .ref x2), (3, .int x3), (4, .int y4), (5, .int y5)] → k6 y4 y5 h = some (r, h') → W p l e rmX6_taken s m args below meth c H locs 0 0 (MQ below (va_Qi (fun r' u => r' = r ∧ u = h') (hp_B G h0) (hp_A h0)) args s 0 0 (hp_A h0)) (F0 m 6 ls [])) {t0 : Int32} {t1 : Int32} {h : hp_H} {H : Heap} {locs : List Loc} {ls : Array Slot} (Y : hp_Y G h h0 s H locs) (hl : lv_has ls 7 [(0, .ref x0), (1, .int x1), (2, .ref x2), (3, .int x3), (5, .int x5)]) (hF : bX6_taken_33 k6 x0 x1 x2 x3 x5 t0 t1 h = some (r, h')) : W p l e rmX6_taken s m args below meth c H locs 0 0 (MQ below (va_Qi (fun r' u => r' = r ∧ u = h') (hp_B G h0) (hp_A h0)) args s 0 0 (hp_A h0)) (F0 m 33 ls [.int t1, .int t0]) := by
  unfold bX6_taken_33 at hF
  refine lv_isub X.1 X.2.1 dX6_taken_33 ?_
  obtain ⟨v1, e2, hF⟩ := hp_b hF
  refine hp_ti (Option.some.inj e2) ?_
  refine lv_istore (lv' := [(6, .int v1), (0, .ref x0), (1, .int x1), (2, .ref x2), (3, .int x3), (5, .int x5)]) X.1 X.2.1 dX6_taken_34 hl (by decide) rfl (fun ls hl => ?_)
  refine lv_iload X.1 X.2.1 dX6_taken_36 (lv_at hl 0 rfl) ?_
  refine lv_if_ge (tgt := 45) X.1 X.2.1 dX6_taken_38 (by decide) (fun c3 => ?_) (fun c3 => ?_)
  · have hF := hp_ifp (c3) hF
    refine lv_iconst (v := 0) X.1 X.2.1 dX6_taken_45 (by decide) ?_
    exact wX6_taken_46 X hk6 Y (lv_sub hl [1, 2, 3, 4, 5, 0] rfl) hF
  · have hF := hp_ifn (c3) hF
    refine lv_iconst (v := 1) X.1 X.2.1 dX6_taken_41 (by decide) ?_
    refine lv_goto (tgt := 46) X.1 X.2.1 dX6_taken_42 (by decide) ?_
    exact wX6_taken_46 X hk6 Y (lv_sub hl [1, 2, 3, 4, 5, 0] rfl) hF
set_option maxRecDepth 100000 in
set_option maxHeartbeats 4000000 in
theorem wX6_taken_6 {p : Program} {l : Launch} {e : Env} {s : State} {m : MethodId} {args : Array Value} {below : List Frame} {meth : Method} {c : Code} {G : hp_G} {h0 h' : hp_H} {r : Int32} (X : hp_X p s m args meth c cX6_taken 7 RX6 wsX6_taken (some .int) G)  {x0 : Nat} {x1 : Int32} {x2 : Nat} {x3 : Int32}   : ∀ (n : Nat) {x4 : Int32} {x5 : Int32} {h : hp_H} {H : Heap} {locs : List Loc} {ls : Array Slot} (Y : hp_Y G h h0 s H locs) (hl : lv_has ls 7 [(0, .ref x0), (1, .int x1), (2, .ref x2), (3, .int x3), (4, .int x4), (5, .int x5)]) (hF : bX6_taken_6 x0 x1 x2 x3 n x4 x5 h = some (r, h')), W p l e rmX6_taken s m args below meth c H locs 0 0 (MQ below (va_Qi (fun r' u => r' = r ∧ u = h') (hp_B G h0) (hp_A h0)) args s 0 0 (hp_A h0)) (F0 m 6 ls []) := by
  intro n
  induction n with
  | zero =>
    intro x4 x5 h H locs ls Y hl hF
    exact absurd (show none = some _ from hF) (by simp)
  | succ n ih =>
    intro x4 x5 h H locs ls Y hl hF
    rw [bX6_taken_6] at hF
    refine lv_iload X.1 X.2.1 dX6_taken_6 (lv_at hl 5 rfl) ?_
    refine lv_iload_n X.1 X.2.1 dX6_taken_8 rfl (lv_at hl 1 rfl) ?_
    refine lv_icmp_ge (tgt := 67) X.1 X.2.1 dX6_taken_9 (by decide) (fun c1 => ?_) (fun c1 => ?_)
    · have hF := hp_ifp (c1) hF
      refine lv_aload_n X.1 X.2.1 dX6_taken_67 rfl (lv_at hl 0 rfl) ?_
      refine lv_iload_n X.1 X.2.1 dX6_taken_68 rfl (lv_at hl 1 rfl) ?_
      obtain ⟨v3, e2, hF⟩ := hp_b hF
      refine hp_ci Y (hp_runS X Y (As := [.ref x0, .int x1]) (n := 2) (mX6_shortened l G e2) gX6_taken_X6_shortened rfl rfl rfl ndX6_shortened ⟨Nat.le_of_ble_eq_true rfl, Nat.le_of_ble_eq_true rfl⟩ rfl hl.1 rfl (Nat.le_of_ble_eq_true rfl) dX6_taken_69 ⟨Nat.zero_le _, Nat.zero_le _⟩) (fun H locs Y => ?_)
      cases hF
      exact hp_ri X Y rfl rfl dX6_taken_72
    · have hF := hp_ifn (c1) hF
      refine lv_aload_n X.1 X.2.1 dX6_taken_12 rfl (lv_at hl 0 rfl) ?_
      refine lv_iload X.1 X.2.1 dX6_taken_13 (lv_at hl 5 rfl) ?_
      obtain ⟨v4, e5, hF⟩ := hp_b hF
      refine hp_iald X Y e5 dX6_taken_15 ?_
      refine lv_iload X.1 X.2.1 dX6_taken_16 (lv_at hl 4 rfl) ?_
      refine lv_isub X.1 X.2.1 dX6_taken_18 ?_
      refine lv_iload X.1 X.2.1 dX6_taken_19 (lv_at hl 5 rfl) ?_
      refine lv_iload_n X.1 X.2.1 dX6_taken_21 rfl (lv_at hl 3 rfl) ?_
      refine lv_icmp_ge (tgt := 32) X.1 X.2.1 dX6_taken_22 (by decide) (fun c6 => ?_) (fun c6 => ?_)
      · have hF := hp_ifp (c6) hF
        refine lv_iconst (v := 0) X.1 X.2.1 dX6_taken_32 (by decide) ?_
        exact wX6_taken_33 X (fun _ _ _ _ _ _ Y hl hF => ih Y hl hF) Y (lv_sub hl [0, 1, 2, 3, 5] rfl) hF
      · have hF := hp_ifn (c6) hF
        refine lv_aload_n X.1 X.2.1 dX6_taken_25 rfl (lv_at hl 2 rfl) ?_
        refine lv_iload X.1 X.2.1 dX6_taken_26 (lv_at hl 5 rfl) ?_
        obtain ⟨v7, e8, hF⟩ := hp_b hF
        refine hp_iald X Y e8 dX6_taken_28 ?_
        refine lv_goto (tgt := 33) X.1 X.2.1 dX6_taken_29 (by decide) ?_
        exact wX6_taken_33 X (fun _ _ _ _ _ _ Y hl hF => ih Y hl hF) Y (lv_sub hl [0, 1, 2, 3, 5] rfl) hF
set_option maxRecDepth 100000 in
set_option maxHeartbeats 4000000 in
theorem mX6_taken (l : Launch) (G : hp_G) {x0 : Nat} {x1 : Int32} {x2 : Nat} {x3 : Int32} {h h' : hp_H} {r : Int32} (hF : fX6_taken x0 x1 x2 x3 h = some (r, h')) : Met l yX6_taken wsX6_taken rmX6_taken (va_Pc [.ref x0, .int x1, .ref x2, .int x3] (hp_S G h)) (va_Qi (fun r' u => r' = r ∧ u = h') (hp_B G h) (hp_A h)) 0 0 (hp_A h) := by
  refine hp_met (cc := cX6_taken) (nL := 7) (ret := (some .int)) (by decide) rfl ?_
  intro p e s m below meth c X Y
  have hl := lv_entry ([.ref x0, .int x1, .ref x2, .int x3]) (n := 7) (Nat.le_of_ble_eq_true rfl)
  rw [lg_entry_eq]
  generalize (lg_sl ([.ref x0, .int x1, .ref x2, .int x3]) ++ List.replicate (7 - (lg_sl ([.ref x0, .int x1, .ref x2, .int x3])).length) Slot.unset).toArray = ls at hl ⊢
  have hl : lv_has ls 7 [(0, .ref x0), (1, .int x1), (2, .ref x2), (3, .int x3)] := hl
  unfold fX6_taken at hF
  refine lv_iconst (v := 0) X.1 X.2.1 dX6_taken_0 (by decide) ?_
  refine lv_istore (lv' := [(4, .int (0 : Int32)), (0, .ref x0), (1, .int x1), (2, .ref x2), (3, .int x3)]) X.1 X.2.1 dX6_taken_1 hl (by decide) rfl (fun ls hl => ?_)
  refine lv_iconst (v := 0) X.1 X.2.1 dX6_taken_3 (by decide) ?_
  refine lv_istore (lv' := [(5, .int (0 : Int32)), (4, .int (0 : Int32)), (0, .ref x0), (1, .int x1), (2, .ref x2), (3, .int x3)]) X.1 X.2.1 dX6_taken_4 hl (by decide) rfl (fun ls hl => ?_)
  exact wX6_taken_6 X  hp_n Y (lv_sub hl [2, 3, 4, 5, 1, 0] rfl) hF

/-! WholeNumbersModel.isOdd -/
def rmX6_isOdd : Room := { frames := 0, cells := 0, slots := 0, locals := 0 }
def fX6_isOdd (x0 : Nat) (x1 : Int32) (h : hp_H) : Option Int32 :=
  if x1 ≤ 0 then (
    some (0 : Int32))
  else (
    (hp_ai h 0 x0 (0 : Int32)).bind fun v2 =>
    if (hp_irem v2 (2 : Int32)) = (1 : Int32) then (
      some (1 : Int32))
    else (
      some (0 : Int32)))
theorem ndX6_isOdd : yX6_isOdd.cls ≠ "java/lang/invoke/MethodHandle" ∧ yX6_isOdd.cls ≠ "java/lang/invoke/VarHandle" ∧ (parseMethodDescriptor yX6_isOdd.desc).map (fun d => d.parameters.length) = some 2 := by decide +kernel
set_option maxRecDepth 100000 in
set_option maxHeartbeats 4000000 in
theorem mX6_isOdd (l : Launch) (G : hp_G) {x0 : Nat} {x1 : Int32} {h : hp_H} {r : Int32} (hF : fX6_isOdd x0 x1 h = some r) : Met l yX6_isOdd wsX6_isOdd rmX6_isOdd (va_Pc [.ref x0, .int x1] (hp_S G h)) (va_Qi (fun r' u => r' = r ∧ u = h) (hp_B G h) (hp_A h)) 0 0 (hp_A h) := by
  refine hp_met (cc := cX6_isOdd) (nL := 2) (ret := (some .boolean)) (by decide) rfl ?_
  intro p e s m below meth c X Y
  have hl := lv_entry ([.ref x0, .int x1]) (n := 2) (Nat.le_of_ble_eq_true rfl)
  rw [lg_entry_eq]
  generalize (lg_sl ([.ref x0, .int x1]) ++ List.replicate (2 - (lg_sl ([.ref x0, .int x1])).length) Slot.unset).toArray = ls at hl ⊢
  have hl : lv_has ls 2 [(0, .ref x0), (1, .int x1)] := hl
  unfold fX6_isOdd at hF
  refine lv_iload_n X.1 X.2.1 dX6_isOdd_0 rfl (lv_at hl 1 rfl) ?_
  refine lv_if_le (tgt := 17) X.1 X.2.1 dX6_isOdd_1 (by decide) (fun c1 => ?_) (fun c1 => ?_)
  · have hF := hp_ifp (c1) hF
    refine lv_iconst (v := 0) X.1 X.2.1 dX6_isOdd_17 (by decide) ?_
    cases hF
    exact hp_ri X Y rfl rfl dX6_isOdd_18
  · have hF := hp_ifn (c1) hF
    refine lv_aload_n X.1 X.2.1 dX6_isOdd_4 rfl (lv_at hl 0 rfl) ?_
    refine lv_iconst (v := 0) X.1 X.2.1 dX6_isOdd_5 (by decide) ?_
    obtain ⟨v2, e3, hF⟩ := hp_b hF
    refine hp_iald X Y e3 dX6_isOdd_6 ?_
    refine lv_iconst (v := 2) X.1 X.2.1 dX6_isOdd_7 (by decide) ?_
    refine lv_irem X.1 X.2.1 dX6_isOdd_8 (by decide) ?_
    refine lv_iconst (v := 1) X.1 X.2.1 dX6_isOdd_9 (by decide) ?_
    refine lv_icmp_ne (tgt := 17) X.1 X.2.1 dX6_isOdd_10 (by decide) (fun c4 => ?_) (fun c4 => ?_)
    · have hF := hp_ifn (c4) hF
      refine lv_iconst (v := 0) X.1 X.2.1 dX6_isOdd_17 (by decide) ?_
      cases hF
      exact hp_ri X Y rfl rfl dX6_isOdd_18
    · have hF := hp_ifp (c4) hF
      refine lv_iconst (v := 1) X.1 X.2.1 dX6_isOdd_13 (by decide) ?_
      refine lv_goto (tgt := 18) X.1 X.2.1 dX6_isOdd_14 (by decide) ?_
      cases hF
      exact hp_ri X Y rfl rfl dX6_isOdd_18

/-! WholeNumbersModel.toX -/
def rmX6_toX : Room := { frames := 0, cells := 0, slots := 0, locals := 0 }
def bX6_toX_12  (x0 : Nat) (x1 : Int32) : Nat → Int32 → hp_H → Option hp_H
  | 0, _, _ => none
  | n + 1, x2, h =>
  (hp_gi h x0 6 8).bind fun v1 =>
  if v1 ≤ x2 then (
    some h)
  else (
    (hp_gr h x0 6 5).bind fun v4 =>
    (hp_gr h x0 6 0).bind fun v6 =>
    (hp_ai h 0 v6 (((320 : Int32) * x1) + x2)).bind fun v8 =>
    (hp_si h 0 v4 x2 v8).bind fun h10 =>
    (some (x2 + (1 : Int32))).bind fun v12 =>
    bX6_toX_12 x0 x1 n v12 h10)
def fX6_toX (x0 : Nat) (x1 : Int32) (h : hp_H) : Option hp_H :=
  if hp_o h x0 6 = true then
  (hp_gr h x0 6 1).bind fun v1 =>
  (hp_ai h 0 v1 x1).bind fun v3 =>
  (hp_pv h x0 6 8 (.int v3)).bind fun h5 =>
  bX6_toX_12 x0 x1 hp_n (0 : Int32) h5
  else none
theorem inX6_toX_X6 : ∀ w ∈ wsX60, w ∈ wsX6_toX := by decide +kernel
theorem lkX6_toX_f34 : Cond.fieldLink RX6 34 (TX6 8).1 (TX6 8).2.1 (TX6 8).2.2.1 ∈ wsX6_toX := by decide +kernel
theorem lkX6_toX_f22 : Cond.fieldLink RX6 22 (TX6 5).1 (TX6 5).2.1 (TX6 5).2.2.1 ∈ wsX6_toX := by decide +kernel
theorem lkX6_toX_f7 : Cond.fieldLink RX6 7 (TX6 0).1 (TX6 0).2.1 (TX6 0).2.2.1 ∈ wsX6_toX := by decide +kernel
theorem lkX6_toX_f13 : Cond.fieldLink RX6 13 (TX6 1).1 (TX6 1).2.1 (TX6 1).2.2.1 ∈ wsX6_toX := by decide +kernel
theorem ndX6_toX : yX6_toX.cls ≠ "java/lang/invoke/MethodHandle" ∧ yX6_toX.cls ≠ "java/lang/invoke/VarHandle" ∧ (parseMethodDescriptor yX6_toX.desc).map (fun d => d.parameters.length) = some 1 := by decide +kernel
set_option maxRecDepth 100000 in
set_option maxHeartbeats 4000000 in
theorem wX6_toX_12 {p : Program} {l : Launch} {e : Env} {s : State} {m : MethodId} {args : Array Value} {below : List Frame} {meth : Method} {c : Code} {G : hp_G} {h0 h' : hp_H}  (X : hp_X p s m args meth c cX6_toX 3 RX6 wsX6_toX none G)  {x0 : Nat} {x1 : Int32}   : ∀ (n : Nat) {x2 : Int32} {h : hp_H} {H : Heap} {locs : List Loc} {ls : Array Slot} (Y : hp_Y G h h0 s H locs) (hl : lv_has ls 3 [(0, .ref x0), (1, .int x1), (2, .int x2)]) (hF : bX6_toX_12 x0 x1 n x2 h = some h'), W p l e rmX6_toX s m args below meth c H locs 0 0 (MQ below (va_Qv (fun u => u = h') (hp_B G h0) (hp_A h0)) args s 0 0 (hp_A h0)) (F0 m 12 ls []) := by
  intro n
  induction n with
  | zero =>
    intro x2 h H locs ls Y hl hF
    exact absurd (show none = some _ from hF) (by simp)
  | succ n ih =>
    intro x2 h H locs ls Y hl hF
    rw [bX6_toX_12] at hF
    refine lv_iload_n X.1 X.2.1 dX6_toX_12 rfl (lv_at hl 2 rfl) ?_
    refine lv_aload_n X.1 X.2.1 dX6_toX_13 rfl (lv_at hl 0 rfl) ?_
    obtain ⟨v1, e2, hF⟩ := hp_b hF
    refine hp_geti X Y (C := RX6) (T := TX6) (N := 14) (ci := 6) (k := 8) rfl inX6_toX_X6 (by decide) lkX6_toX_f34 e2 dX6_toX_14 ?_
    refine lv_icmp_ge (tgt := 44) X.1 X.2.1 dX6_toX_17 (by decide) (fun c3 => ?_) (fun c3 => ?_)
    · have hF := hp_ifp (c3) hF
      cases hF
      exact hp_rv X Y rfl dX6_toX_44
    · have hF := hp_ifn (c3) hF
      refine lv_aload_n X.1 X.2.1 dX6_toX_20 rfl (lv_at hl 0 rfl) ?_
      obtain ⟨v4, e5, hF⟩ := hp_b hF
      refine hp_getr X Y (C := RX6) (T := TX6) (N := 14) (ci := 6) (k := 5) rfl inX6_toX_X6 (by decide) lkX6_toX_f22 e5 dX6_toX_21 ?_
      refine lv_iload_n X.1 X.2.1 dX6_toX_24 rfl (lv_at hl 2 rfl) ?_
      refine lv_aload_n X.1 X.2.1 dX6_toX_25 rfl (lv_at hl 0 rfl) ?_
      obtain ⟨v6, e7, hF⟩ := hp_b hF
      refine hp_getr X Y (C := RX6) (T := TX6) (N := 14) (ci := 6) (k := 0) rfl inX6_toX_X6 (by decide) lkX6_toX_f7 e7 dX6_toX_26 ?_
      refine lv_sipush (v := 320) X.1 X.2.1 dX6_toX_29 (by decide) ?_
      refine lv_iload_n X.1 X.2.1 dX6_toX_32 rfl (lv_at hl 1 rfl) ?_
      refine lv_imul X.1 X.2.1 dX6_toX_33 ?_
      refine lv_iload_n X.1 X.2.1 dX6_toX_34 rfl (lv_at hl 2 rfl) ?_
      refine lv_iadd X.1 X.2.1 dX6_toX_35 ?_
      obtain ⟨v8, e9, hF⟩ := hp_b hF
      refine hp_iald X Y e9 dX6_toX_36 ?_
      obtain ⟨h10, e11, hF⟩ := hp_b hF
      refine hp_iast X Y e11 dX6_toX_37 (fun H locs Y => ?_)
      obtain ⟨v12, e13, hF⟩ := hp_b hF
      refine lv_iinc (v := v12) (lv' := [(2, .int v12), (0, .ref x0), (1, .int x1)]) X.1 X.2.1 dX6_toX_38 hl (k := 2) rfl (Option.some.inj e13) (by decide) rfl (fun ls hl => ?_)
      refine lv_goto (tgt := 12) X.1 X.2.1 dX6_toX_41 (by decide) ?_
      exact ih Y (lv_sub hl [1, 2, 0] rfl) hF
theorem oX6_toX {x0 : Nat} {x1 : Int32} {h h' : hp_H}  (hF : fX6_toX x0 x1 h = some h') : hp_o h x0 6 = true := by
  unfold fX6_toX at hF
  exact (hp_ift hF).1
set_option maxRecDepth 100000 in
set_option maxHeartbeats 4000000 in
theorem mX6_toX (l : Launch) (G : hp_G) {x0 : Nat} {x1 : Int32} {h h' : hp_H}  (hF : fX6_toX x0 x1 h = some h') : Met l yX6_toX wsX6_toX rmX6_toX (va_Pc [.ref x0, .int x1] (hp_S G h)) (va_Qv (fun u => u = h') (hp_B G h) (hp_A h)) 0 0 (hp_A h) := by
  refine hp_met (cc := cX6_toX) (nL := 3) (ret := none) (by decide) rfl ?_
  intro p e s m below meth c X Y
  have hl := lv_entry ([.ref x0, .int x1]) (n := 3) (Nat.le_of_ble_eq_true rfl)
  rw [lg_entry_eq]
  generalize (lg_sl ([.ref x0, .int x1]) ++ List.replicate (3 - (lg_sl ([.ref x0, .int x1])).length) Slot.unset).toArray = ls at hl ⊢
  have hl : lv_has ls 3 [(0, .ref x0), (1, .int x1)] := hl
  unfold fX6_toX at hF
  obtain ⟨ho, hF⟩ := hp_ift hF
  refine lv_aload_n X.1 X.2.1 dX6_toX_0 rfl (lv_at hl 0 rfl) ?_
  refine lv_aload_n X.1 X.2.1 dX6_toX_1 rfl (lv_at hl 0 rfl) ?_
  obtain ⟨v1, e2, hF⟩ := hp_b hF
  refine hp_getr X Y (C := RX6) (T := TX6) (N := 14) (ci := 6) (k := 1) rfl inX6_toX_X6 (by decide) lkX6_toX_f13 e2 dX6_toX_2 ?_
  refine lv_iload_n X.1 X.2.1 dX6_toX_5 rfl (lv_at hl 1 rfl) ?_
  obtain ⟨v3, e4, hF⟩ := hp_b hF
  refine hp_iald X Y e4 dX6_toX_6 ?_
  obtain ⟨h5, e6, hF⟩ := hp_b hF
  refine hp_put X Y (C := RX6) (T := TX6) (N := 14) (ci := 6) (k := 8) (ty0 := tyX6) rfl inX6_toX_X6 tyX6_ok nmX6 (by decide) lkX6_toX_f34 rfl rfl rfl e6 dX6_toX_7 (fun H locs Y => ?_)
  refine lv_iconst (v := 0) X.1 X.2.1 dX6_toX_10 (by decide) ?_
  refine lv_istore_n (lv' := [(2, .int (0 : Int32)), (0, .ref x0), (1, .int x1)]) X.1 X.2.1 dX6_toX_11 rfl hl (by decide) rfl (fun ls hl => ?_)
  exact wX6_toX_12 X  hp_n Y (lv_sub hl [1, 2, 0] rfl) hF

/-! WholeNumbersModel.toY -/
def rmX6_toY : Room := { frames := 0, cells := 0, slots := 0, locals := 0 }
def bX6_toY_12  (x0 : Nat) (x1 : Int32) : Nat → Int32 → hp_H → Option hp_H
  | 0, _, _ => none
  | n + 1, x2, h =>
  (hp_gi h x0 6 9).bind fun v1 =>
  if v1 ≤ x2 then (
    some h)
  else (
    (hp_gr h x0 6 6).bind fun v4 =>
    (hp_gr h x0 6 0).bind fun v6 =>
    (hp_ai h 0 v6 (((320 : Int32) * x1) + x2)).bind fun v8 =>
    (hp_si h 0 v4 x2 v8).bind fun h10 =>
    (some (x2 + (1 : Int32))).bind fun v12 =>
    bX6_toY_12 x0 x1 n v12 h10)
def fX6_toY (x0 : Nat) (x1 : Int32) (h : hp_H) : Option hp_H :=
  if hp_o h x0 6 = true then
  (hp_gr h x0 6 1).bind fun v1 =>
  (hp_ai h 0 v1 x1).bind fun v3 =>
  (hp_pv h x0 6 9 (.int v3)).bind fun h5 =>
  bX6_toY_12 x0 x1 hp_n (0 : Int32) h5
  else none
theorem inX6_toY_X6 : ∀ w ∈ wsX60, w ∈ wsX6_toY := by decide +kernel
theorem lkX6_toY_f55 : Cond.fieldLink RX6 55 (TX6 9).1 (TX6 9).2.1 (TX6 9).2.2.1 ∈ wsX6_toY := by decide +kernel
theorem lkX6_toY_f25 : Cond.fieldLink RX6 25 (TX6 6).1 (TX6 6).2.1 (TX6 6).2.2.1 ∈ wsX6_toY := by decide +kernel
theorem lkX6_toY_f7 : Cond.fieldLink RX6 7 (TX6 0).1 (TX6 0).2.1 (TX6 0).2.2.1 ∈ wsX6_toY := by decide +kernel
theorem lkX6_toY_f13 : Cond.fieldLink RX6 13 (TX6 1).1 (TX6 1).2.1 (TX6 1).2.2.1 ∈ wsX6_toY := by decide +kernel
theorem ndX6_toY : yX6_toY.cls ≠ "java/lang/invoke/MethodHandle" ∧ yX6_toY.cls ≠ "java/lang/invoke/VarHandle" ∧ (parseMethodDescriptor yX6_toY.desc).map (fun d => d.parameters.length) = some 1 := by decide +kernel
set_option maxRecDepth 100000 in
set_option maxHeartbeats 4000000 in
theorem wX6_toY_12 {p : Program} {l : Launch} {e : Env} {s : State} {m : MethodId} {args : Array Value} {below : List Frame} {meth : Method} {c : Code} {G : hp_G} {h0 h' : hp_H}  (X : hp_X p s m args meth c cX6_toY 3 RX6 wsX6_toY none G)  {x0 : Nat} {x1 : Int32}   : ∀ (n : Nat) {x2 : Int32} {h : hp_H} {H : Heap} {locs : List Loc} {ls : Array Slot} (Y : hp_Y G h h0 s H locs) (hl : lv_has ls 3 [(0, .ref x0), (1, .int x1), (2, .int x2)]) (hF : bX6_toY_12 x0 x1 n x2 h = some h'), W p l e rmX6_toY s m args below meth c H locs 0 0 (MQ below (va_Qv (fun u => u = h') (hp_B G h0) (hp_A h0)) args s 0 0 (hp_A h0)) (F0 m 12 ls []) := by
  intro n
  induction n with
  | zero =>
    intro x2 h H locs ls Y hl hF
    exact absurd (show none = some _ from hF) (by simp)
  | succ n ih =>
    intro x2 h H locs ls Y hl hF
    rw [bX6_toY_12] at hF
    refine lv_iload_n X.1 X.2.1 dX6_toY_12 rfl (lv_at hl 2 rfl) ?_
    refine lv_aload_n X.1 X.2.1 dX6_toY_13 rfl (lv_at hl 0 rfl) ?_
    obtain ⟨v1, e2, hF⟩ := hp_b hF
    refine hp_geti X Y (C := RX6) (T := TX6) (N := 14) (ci := 6) (k := 9) rfl inX6_toY_X6 (by decide) lkX6_toY_f55 e2 dX6_toY_14 ?_
    refine lv_icmp_ge (tgt := 44) X.1 X.2.1 dX6_toY_17 (by decide) (fun c3 => ?_) (fun c3 => ?_)
    · have hF := hp_ifp (c3) hF
      cases hF
      exact hp_rv X Y rfl dX6_toY_44
    · have hF := hp_ifn (c3) hF
      refine lv_aload_n X.1 X.2.1 dX6_toY_20 rfl (lv_at hl 0 rfl) ?_
      obtain ⟨v4, e5, hF⟩ := hp_b hF
      refine hp_getr X Y (C := RX6) (T := TX6) (N := 14) (ci := 6) (k := 6) rfl inX6_toY_X6 (by decide) lkX6_toY_f25 e5 dX6_toY_21 ?_
      refine lv_iload_n X.1 X.2.1 dX6_toY_24 rfl (lv_at hl 2 rfl) ?_
      refine lv_aload_n X.1 X.2.1 dX6_toY_25 rfl (lv_at hl 0 rfl) ?_
      obtain ⟨v6, e7, hF⟩ := hp_b hF
      refine hp_getr X Y (C := RX6) (T := TX6) (N := 14) (ci := 6) (k := 0) rfl inX6_toY_X6 (by decide) lkX6_toY_f7 e7 dX6_toY_26 ?_
      refine lv_sipush (v := 320) X.1 X.2.1 dX6_toY_29 (by decide) ?_
      refine lv_iload_n X.1 X.2.1 dX6_toY_32 rfl (lv_at hl 1 rfl) ?_
      refine lv_imul X.1 X.2.1 dX6_toY_33 ?_
      refine lv_iload_n X.1 X.2.1 dX6_toY_34 rfl (lv_at hl 2 rfl) ?_
      refine lv_iadd X.1 X.2.1 dX6_toY_35 ?_
      obtain ⟨v8, e9, hF⟩ := hp_b hF
      refine hp_iald X Y e9 dX6_toY_36 ?_
      obtain ⟨h10, e11, hF⟩ := hp_b hF
      refine hp_iast X Y e11 dX6_toY_37 (fun H locs Y => ?_)
      obtain ⟨v12, e13, hF⟩ := hp_b hF
      refine lv_iinc (v := v12) (lv' := [(2, .int v12), (0, .ref x0), (1, .int x1)]) X.1 X.2.1 dX6_toY_38 hl (k := 2) rfl (Option.some.inj e13) (by decide) rfl (fun ls hl => ?_)
      refine lv_goto (tgt := 12) X.1 X.2.1 dX6_toY_41 (by decide) ?_
      exact ih Y (lv_sub hl [1, 2, 0] rfl) hF
theorem oX6_toY {x0 : Nat} {x1 : Int32} {h h' : hp_H}  (hF : fX6_toY x0 x1 h = some h') : hp_o h x0 6 = true := by
  unfold fX6_toY at hF
  exact (hp_ift hF).1
set_option maxRecDepth 100000 in
set_option maxHeartbeats 4000000 in
theorem mX6_toY (l : Launch) (G : hp_G) {x0 : Nat} {x1 : Int32} {h h' : hp_H}  (hF : fX6_toY x0 x1 h = some h') : Met l yX6_toY wsX6_toY rmX6_toY (va_Pc [.ref x0, .int x1] (hp_S G h)) (va_Qv (fun u => u = h') (hp_B G h) (hp_A h)) 0 0 (hp_A h) := by
  refine hp_met (cc := cX6_toY) (nL := 3) (ret := none) (by decide) rfl ?_
  intro p e s m below meth c X Y
  have hl := lv_entry ([.ref x0, .int x1]) (n := 3) (Nat.le_of_ble_eq_true rfl)
  rw [lg_entry_eq]
  generalize (lg_sl ([.ref x0, .int x1]) ++ List.replicate (3 - (lg_sl ([.ref x0, .int x1])).length) Slot.unset).toArray = ls at hl ⊢
  have hl : lv_has ls 3 [(0, .ref x0), (1, .int x1)] := hl
  unfold fX6_toY at hF
  obtain ⟨ho, hF⟩ := hp_ift hF
  refine lv_aload_n X.1 X.2.1 dX6_toY_0 rfl (lv_at hl 0 rfl) ?_
  refine lv_aload_n X.1 X.2.1 dX6_toY_1 rfl (lv_at hl 0 rfl) ?_
  obtain ⟨v1, e2, hF⟩ := hp_b hF
  refine hp_getr X Y (C := RX6) (T := TX6) (N := 14) (ci := 6) (k := 1) rfl inX6_toY_X6 (by decide) lkX6_toY_f13 e2 dX6_toY_2 ?_
  refine lv_iload_n X.1 X.2.1 dX6_toY_5 rfl (lv_at hl 1 rfl) ?_
  obtain ⟨v3, e4, hF⟩ := hp_b hF
  refine hp_iald X Y e4 dX6_toY_6 ?_
  obtain ⟨h5, e6, hF⟩ := hp_b hF
  refine hp_put X Y (C := RX6) (T := TX6) (N := 14) (ci := 6) (k := 9) (ty0 := tyX6) rfl inX6_toY_X6 tyX6_ok nmX6 (by decide) lkX6_toY_f55 rfl rfl rfl e6 dX6_toY_7 (fun H locs Y => ?_)
  refine lv_iconst (v := 0) X.1 X.2.1 dX6_toY_10 (by decide) ?_
  refine lv_istore_n (lv' := [(2, .int (0 : Int32)), (0, .ref x0), (1, .int x1)]) X.1 X.2.1 dX6_toY_11 rfl hl (by decide) rfl (fun ls hl => ?_)
  exact wX6_toY_12 X  hp_n Y (lv_sub hl [1, 2, 0] rfl) hF

/-! WholeNumbersModel.isWithin -/
def rmX6_isWithin : Room := { frames := 1, cells := 0, slots := 0, locals := 24 }
def fX6_isWithin (x0 : Nat) (x1 : Nat) (x2 : Int32) (h : hp_H) : Option Int32 :=
  if hp_o h x0 6 = true then
  (hp_gr h x0 6 3).bind fun v1 =>
  (hp_gi h x0 6 4).bind fun v3 =>
  (fX6_compareRows x1 x2 v1 v3 h).bind fun v6 =>
  if 0 ≤ v6 then (
    some (0 : Int32))
  else (
    some (1 : Int32))
  else none
theorem inX6_isWithin_X6 : ∀ w ∈ wsX60, w ∈ wsX6_isWithin := by decide +kernel
theorem lkX6_isWithin_f19 : Cond.fieldLink RX6 19 (TX6 3).1 (TX6 3).2.1 (TX6 3).2.2.1 ∈ wsX6_isWithin := by decide +kernel
theorem lkX6_isWithin_f42 : Cond.fieldLink RX6 42 (TX6 4).1 (TX6 4).2.1 (TX6 4).2.2.1 ∈ wsX6_isWithin := by decide +kernel
theorem ndX6_isWithin : yX6_isWithin.cls ≠ "java/lang/invoke/MethodHandle" ∧ yX6_isWithin.cls ≠ "java/lang/invoke/VarHandle" ∧ (parseMethodDescriptor yX6_isWithin.desc).map (fun d => d.parameters.length) = some 2 := by decide +kernel
theorem oX6_isWithin {x0 : Nat} {x1 : Nat} {x2 : Int32} {h : hp_H} {r : Int32} (hF : fX6_isWithin x0 x1 x2 h = some r) : hp_o h x0 6 = true := by
  unfold fX6_isWithin at hF
  exact (hp_ift hF).1
set_option maxRecDepth 100000 in
set_option maxHeartbeats 4000000 in
theorem mX6_isWithin (l : Launch) (G : hp_G) {x0 : Nat} {x1 : Nat} {x2 : Int32} {h : hp_H} {r : Int32} (hF : fX6_isWithin x0 x1 x2 h = some r) : Met l yX6_isWithin wsX6_isWithin rmX6_isWithin (va_Pc [.ref x0, .ref x1, .int x2] (hp_S G h)) (va_Qi (fun r' u => r' = r ∧ u = h) (hp_B G h) (hp_A h)) 0 0 (hp_A h) := by
  refine hp_met (cc := cX6_isWithin) (nL := 3) (ret := (some .boolean)) (by decide) rfl ?_
  intro p e s m below meth c X Y
  have hl := lv_entry ([.ref x0, .ref x1, .int x2]) (n := 3) (Nat.le_of_ble_eq_true rfl)
  rw [lg_entry_eq]
  generalize (lg_sl ([.ref x0, .ref x1, .int x2]) ++ List.replicate (3 - (lg_sl ([.ref x0, .ref x1, .int x2])).length) Slot.unset).toArray = ls at hl ⊢
  have hl : lv_has ls 3 [(0, .ref x0), (1, .ref x1), (2, .int x2)] := hl
  unfold fX6_isWithin at hF
  obtain ⟨ho, hF⟩ := hp_ift hF
  refine lv_aload_n X.1 X.2.1 dX6_isWithin_0 rfl (lv_at hl 1 rfl) ?_
  refine lv_iload_n X.1 X.2.1 dX6_isWithin_1 rfl (lv_at hl 2 rfl) ?_
  refine lv_aload_n X.1 X.2.1 dX6_isWithin_2 rfl (lv_at hl 0 rfl) ?_
  obtain ⟨v1, e2, hF⟩ := hp_b hF
  refine hp_getr X Y (C := RX6) (T := TX6) (N := 14) (ci := 6) (k := 3) rfl inX6_isWithin_X6 (by decide) lkX6_isWithin_f19 e2 dX6_isWithin_3 ?_
  refine lv_aload_n X.1 X.2.1 dX6_isWithin_6 rfl (lv_at hl 0 rfl) ?_
  obtain ⟨v3, e4, hF⟩ := hp_b hF
  refine hp_geti X Y (C := RX6) (T := TX6) (N := 14) (ci := 6) (k := 4) rfl inX6_isWithin_X6 (by decide) lkX6_isWithin_f42 e4 dX6_isWithin_7 ?_
  obtain ⟨v6, e5, hF⟩ := hp_b hF
  refine hp_ci Y (hp_runS X Y (As := [.ref x1, .int x2, .ref v1, .int v3]) (n := 4) (mX6_compareRows l G e5) gX6_isWithin_X6_compareRows rfl rfl rfl ndX6_compareRows ⟨Nat.le_of_ble_eq_true rfl, Nat.le_of_ble_eq_true rfl⟩ rfl hl.1 rfl (Nat.le_of_ble_eq_true rfl) dX6_isWithin_10 ⟨Nat.zero_le _, Nat.zero_le _⟩) (fun H locs Y => ?_)
  refine lv_if_ge (tgt := 20) X.1 X.2.1 dX6_isWithin_13 (by decide) (fun c7 => ?_) (fun c7 => ?_)
  · have hF := hp_ifp (c7) hF
    refine lv_iconst (v := 0) X.1 X.2.1 dX6_isWithin_20 (by decide) ?_
    cases hF
    exact hp_ri X Y rfl rfl dX6_isWithin_21
  · have hF := hp_ifn (c7) hF
    refine lv_iconst (v := 1) X.1 X.2.1 dX6_isWithin_16 (by decide) ?_
    refine lv_goto (tgt := 21) X.1 X.2.1 dX6_isWithin_17 (by decide) ?_
    cases hF
    exact hp_ri X Y rfl rfl dX6_isWithin_21

/-! WholeNumbersModel.bitsOf -/
def rmX6_bitsOf : Room := { frames := 2, cells := 0, slots := 0, locals := 46 }
def bX6_bitsOf_7  (x0 : Nat) : Nat → Int32 → hp_H → Option (Int32 × hp_H)
  | 0, _, _ => none
  | n + 1, x2, h =>
  (hp_gi h x0 6 8).bind fun v1 =>
  if v1 ≤ 0 then (
    some (x2, h))
  else (
    (hp_gr h x0 6 5).bind fun v4 =>
    (hp_gi h x0 6 8).bind fun v6 =>
    (fX6_half v4 v6 h).bind fun (v10, h9) =>
    (hp_pv h9 x0 6 8 (.int v10)).bind fun h12 =>
    (some (x2 + (1 : Int32))).bind fun v14 =>
    bX6_bitsOf_7 x0 n v14 h12)
def fX6_bitsOf (x0 : Nat) (x1 : Int32) (h : hp_H) : Option (Int32 × hp_H) :=
  if hp_o h x0 6 = true then
  (fX6_toX x0 x1 h).bind fun h2 =>
  bX6_bitsOf_7 x0 hp_n (0 : Int32) h2
  else none
theorem inX6_bitsOf_X6 : ∀ w ∈ wsX60, w ∈ wsX6_bitsOf := by decide +kernel
theorem lkX6_bitsOf_f34 : Cond.fieldLink RX6 34 (TX6 8).1 (TX6 8).2.1 (TX6 8).2.2.1 ∈ wsX6_bitsOf := by decide +kernel
theorem lkX6_bitsOf_f22 : Cond.fieldLink RX6 22 (TX6 5).1 (TX6 5).2.1 (TX6 5).2.2.1 ∈ wsX6_bitsOf := by decide +kernel
theorem ndX6_bitsOf : yX6_bitsOf.cls ≠ "java/lang/invoke/MethodHandle" ∧ yX6_bitsOf.cls ≠ "java/lang/invoke/VarHandle" ∧ (parseMethodDescriptor yX6_bitsOf.desc).map (fun d => d.parameters.length) = some 1 := by decide +kernel
set_option maxRecDepth 100000 in
set_option maxHeartbeats 4000000 in
theorem wX6_bitsOf_7 {p : Program} {l : Launch} {e : Env} {s : State} {m : MethodId} {args : Array Value} {below : List Frame} {meth : Method} {c : Code} {G : hp_G} {h0 h' : hp_H} {r : Int32} (X : hp_X p s m args meth c cX6_bitsOf 3 RX6 wsX6_bitsOf (some .int) G)  {x0 : Nat}   : ∀ (n : Nat) {x2 : Int32} {h : hp_H} {H : Heap} {locs : List Loc} {ls : Array Slot} (Y : hp_Y G h h0 s H locs) (hl : lv_has ls 3 [(0, .ref x0), (2, .int x2)]) (hF : bX6_bitsOf_7 x0 n x2 h = some (r, h')), W p l e rmX6_bitsOf s m args below meth c H locs 0 0 (MQ below (va_Qi (fun r' u => r' = r ∧ u = h') (hp_B G h0) (hp_A h0)) args s 0 0 (hp_A h0)) (F0 m 7 ls []) := by
  intro n
  induction n with
  | zero =>
    intro x2 h H locs ls Y hl hF
    exact absurd (show none = some _ from hF) (by simp)
  | succ n ih =>
    intro x2 h H locs ls Y hl hF
    rw [bX6_bitsOf_7] at hF
    refine lv_aload_n X.1 X.2.1 dX6_bitsOf_7 rfl (lv_at hl 0 rfl) ?_
    obtain ⟨v1, e2, hF⟩ := hp_b hF
    refine hp_geti X Y (C := RX6) (T := TX6) (N := 14) (ci := 6) (k := 8) rfl inX6_bitsOf_X6 (by decide) lkX6_bitsOf_f34 e2 dX6_bitsOf_8 ?_
    refine lv_if_le (tgt := 35) X.1 X.2.1 dX6_bitsOf_11 (by decide) (fun c3 => ?_) (fun c3 => ?_)
    · have hF := hp_ifp (c3) hF
      refine lv_iload_n X.1 X.2.1 dX6_bitsOf_35 rfl (lv_at hl 1 rfl) ?_
      cases hF
      exact hp_ri X Y rfl rfl dX6_bitsOf_36
    · have hF := hp_ifn (c3) hF
      refine lv_aload_n X.1 X.2.1 dX6_bitsOf_14 rfl (lv_at hl 0 rfl) ?_
      refine lv_aload_n X.1 X.2.1 dX6_bitsOf_15 rfl (lv_at hl 0 rfl) ?_
      obtain ⟨v4, e5, hF⟩ := hp_b hF
      refine hp_getr X Y (C := RX6) (T := TX6) (N := 14) (ci := 6) (k := 5) rfl inX6_bitsOf_X6 (by decide) lkX6_bitsOf_f22 e5 dX6_bitsOf_16 ?_
      refine lv_aload_n X.1 X.2.1 dX6_bitsOf_19 rfl (lv_at hl 0 rfl) ?_
      obtain ⟨v6, e7, hF⟩ := hp_b hF
      refine hp_geti X Y (C := RX6) (T := TX6) (N := 14) (ci := 6) (k := 8) rfl inX6_bitsOf_X6 (by decide) lkX6_bitsOf_f34 e7 dX6_bitsOf_20 ?_
      obtain ⟨⟨v10, h9⟩, e8, hF⟩ := hp_b hF
      refine hp_ci Y (hp_runS X Y (As := [.ref v4, .int v6]) (n := 2) (mX6_half l G e8) gX6_bitsOf_X6_half rfl rfl rfl ndX6_half ⟨Nat.le_of_ble_eq_true rfl, Nat.le_of_ble_eq_true rfl⟩ rfl hl.1 rfl (Nat.le_of_ble_eq_true rfl) dX6_bitsOf_23 ⟨Nat.zero_le _, Nat.zero_le _⟩) (fun H locs Y => ?_)
      obtain ⟨h12, e13, hF⟩ := hp_b hF
      refine hp_put X Y (C := RX6) (T := TX6) (N := 14) (ci := 6) (k := 8) (ty0 := tyX6) rfl inX6_bitsOf_X6 tyX6_ok nmX6 (by decide) lkX6_bitsOf_f34 rfl rfl rfl e13 dX6_bitsOf_26 (fun H locs Y => ?_)
      obtain ⟨v14, e15, hF⟩ := hp_b hF
      refine lv_iinc (v := v14) (lv' := [(2, .int v14), (0, .ref x0)]) X.1 X.2.1 dX6_bitsOf_29 hl (k := 1) rfl (Option.some.inj e15) (by decide) rfl (fun ls hl => ?_)
      refine lv_goto (tgt := 7) X.1 X.2.1 dX6_bitsOf_32 (by decide) ?_
      exact ih Y (lv_sub hl [1, 0] rfl) hF
theorem oX6_bitsOf {x0 : Nat} {x1 : Int32} {h h' : hp_H} {r : Int32} (hF : fX6_bitsOf x0 x1 h = some (r, h')) : hp_o h x0 6 = true := by
  unfold fX6_bitsOf at hF
  exact (hp_ift hF).1
set_option maxRecDepth 100000 in
set_option maxHeartbeats 4000000 in
theorem mX6_bitsOf (l : Launch) (G : hp_G) {x0 : Nat} {x1 : Int32} {h h' : hp_H} {r : Int32} (hF : fX6_bitsOf x0 x1 h = some (r, h')) : Met l yX6_bitsOf wsX6_bitsOf rmX6_bitsOf (va_Pc [.ref x0, .int x1] (hp_S G h)) (va_Qi (fun r' u => r' = r ∧ u = h') (hp_B G h) (hp_A h)) 0 0 (hp_A h) := by
  refine hp_met (cc := cX6_bitsOf) (nL := 3) (ret := (some .int)) (by decide) rfl ?_
  intro p e s m below meth c X Y
  have hl := lv_entry ([.ref x0, .int x1]) (n := 3) (Nat.le_of_ble_eq_true rfl)
  rw [lg_entry_eq]
  generalize (lg_sl ([.ref x0, .int x1]) ++ List.replicate (3 - (lg_sl ([.ref x0, .int x1])).length) Slot.unset).toArray = ls at hl ⊢
  have hl : lv_has ls 3 [(0, .ref x0), (1, .int x1)] := hl
  unfold fX6_bitsOf at hF
  obtain ⟨ho, hF⟩ := hp_ift hF
  refine lv_aload_n X.1 X.2.1 dX6_bitsOf_0 rfl (lv_at hl 0 rfl) ?_
  refine lv_iload_n X.1 X.2.1 dX6_bitsOf_1 rfl (lv_at hl 1 rfl) ?_
  obtain ⟨h2, e1, hF⟩ := hp_b hF
  refine hp_cv Y (hp_runV X Y (ci := 6) (As := [.int x1]) (n := 1) (T := TX6) (N := 14) (mX6_toX l G e1) rfl (oX6_toX e1) gX6_bitsOf_X6_toX rfl rfl rfl ndX6_toX ⟨Nat.le_of_ble_eq_true rfl, Nat.le_of_ble_eq_true rfl⟩ rfl hl.1 rfl (Nat.le_of_ble_eq_true rfl) dX6_bitsOf_2 ⟨Nat.zero_le _, Nat.zero_le _⟩) (fun H locs Y => ?_)
  refine lv_iconst (v := 0) X.1 X.2.1 dX6_bitsOf_5 (by decide) ?_
  refine lv_istore_n (lv' := [(2, .int (0 : Int32)), (0, .ref x0), (1, .int x1)]) X.1 X.2.1 dX6_bitsOf_6 rfl hl (by decide) rfl (fun ls hl => ?_)
  exact wX6_bitsOf_7 X  hp_n Y (lv_sub hl [1, 0] rfl) hF

/-! WholeNumbersModel.put -/
def rmX6_put : Room := { frames := 3, cells := 0, slots := 0, locals := 68 }
def bX6_put_37  (x0 : Nat) (x1 : Int32) (x2 : Nat) (x3 : Int32) : Nat → Int32 → hp_H → Option (Int32 × hp_H)
  | 0, _, _ => none
  | n + 1, x5, h =>
  if x3 ≤ x5 then (
    (fX6_bitsOf x0 x1 h).bind fun (v4, h3) =>
    some (v4, h3))
  else (
    (hp_gr h x0 6 0).bind fun v6 =>
    (hp_ai h 0 x2 x5).bind fun v8 =>
    (hp_si h 0 v6 (((320 : Int32) * x1) + x5) v8).bind fun h10 =>
    (some (x5 + (1 : Int32))).bind fun v12 =>
    bX6_put_37 x0 x1 x2 x3 n v12 h10)
def bX6_put_33  (x0 : Nat) (x1 : Int32) (x2 : Nat) (x3 : Int32) (t0 : Nat) (t1 : Int32) (t2 : Int32) (h : hp_H) : Option (Int32 × hp_H) :=
  (hp_si h 0 t0 t1 t2).bind fun h1 =>
  bX6_put_37 x0 x1 x2 x3 hp_n (0 : Int32) h1
def fX6_put (x0 : Nat) (x1 : Int32) (x2 : Nat) (x3 : Int32) (x4 : Int32) (h : hp_H) : Option (Int32 × hp_H) :=
  if hp_o h x0 6 = true then
  (fX6_isWithin x0 x2 x3 h).bind fun v2 =>
  if v2 = 0 then (
    some ((-1 : Int32), h))
  else (
    (hp_gr h x0 6 1).bind fun v4 =>
    (hp_si h 0 v4 x1 x3).bind fun h6 =>
    (hp_gr h6 x0 6 2).bind fun v8 =>
    if x3 = 0 then (
      bX6_put_33 x0 x1 x2 x3 v8 x1 (0 : Int32) h6)
    else (
      bX6_put_33 x0 x1 x2 x3 v8 x1 x4 h6))
  else none
theorem inX6_put_X6 : ∀ w ∈ wsX60, w ∈ wsX6_put := by decide +kernel
theorem lkX6_put_f7 : Cond.fieldLink RX6 7 (TX6 0).1 (TX6 0).2.1 (TX6 0).2.2.1 ∈ wsX6_put := by decide +kernel
theorem lkX6_put_f13 : Cond.fieldLink RX6 13 (TX6 1).1 (TX6 1).2.1 (TX6 1).2.2.1 ∈ wsX6_put := by decide +kernel
theorem lkX6_put_f16 : Cond.fieldLink RX6 16 (TX6 2).1 (TX6 2).2.1 (TX6 2).2.2.1 ∈ wsX6_put := by decide +kernel
theorem ndX6_put : yX6_put.cls ≠ "java/lang/invoke/MethodHandle" ∧ yX6_put.cls ≠ "java/lang/invoke/VarHandle" ∧ (parseMethodDescriptor yX6_put.desc).map (fun d => d.parameters.length) = some 4 := by decide +kernel
set_option maxRecDepth 100000 in
set_option maxHeartbeats 4000000 in
theorem wX6_put_37 {p : Program} {l : Launch} {e : Env} {s : State} {m : MethodId} {args : Array Value} {below : List Frame} {meth : Method} {c : Code} {G : hp_G} {h0 h' : hp_H} {r : Int32} (X : hp_X p s m args meth c cX6_put 6 RX6 wsX6_put (some .int) G)  {x0 : Nat} {x1 : Int32} {x2 : Nat} {x3 : Int32}   : ∀ (n : Nat) {x5 : Int32} {h : hp_H} {H : Heap} {locs : List Loc} {ls : Array Slot} (Y : hp_Y G h h0 s H locs) (hl : lv_has ls 6 [(0, .ref x0), (1, .int x1), (2, .ref x2), (3, .int x3), (5, .int x5)]) (hF : bX6_put_37 x0 x1 x2 x3 n x5 h = some (r, h')), W p l e rmX6_put s m args below meth c H locs 0 0 (MQ below (va_Qi (fun r' u => r' = r ∧ u = h') (hp_B G h0) (hp_A h0)) args s 0 0 (hp_A h0)) (F0 m 37 ls []) := by
  intro n
  induction n with
  | zero =>
    intro x5 h H locs ls Y hl hF
    exact absurd (show none = some _ from hF) (by simp)
  | succ n ih =>
    intro x5 h H locs ls Y hl hF
    rw [bX6_put_37] at hF
    refine lv_iload X.1 X.2.1 dX6_put_37 (lv_at hl 4 rfl) ?_
    refine lv_iload_n X.1 X.2.1 dX6_put_39 rfl (lv_at hl 3 rfl) ?_
    refine lv_icmp_ge (tgt := 66) X.1 X.2.1 dX6_put_40 (by decide) (fun c1 => ?_) (fun c1 => ?_)
    · have hF := hp_ifp (c1) hF
      refine lv_aload_n X.1 X.2.1 dX6_put_66 rfl (lv_at hl 0 rfl) ?_
      refine lv_iload_n X.1 X.2.1 dX6_put_67 rfl (lv_at hl 1 rfl) ?_
      obtain ⟨⟨v4, h3⟩, e2, hF⟩ := hp_b hF
      refine hp_ci Y (hp_runV X Y (ci := 6) (As := [.int x1]) (n := 1) (T := TX6) (N := 14) (mX6_bitsOf l G e2) rfl (oX6_bitsOf e2) gX6_put_X6_bitsOf rfl rfl rfl ndX6_bitsOf ⟨Nat.le_of_ble_eq_true rfl, Nat.le_of_ble_eq_true rfl⟩ rfl hl.1 rfl (Nat.le_of_ble_eq_true rfl) dX6_put_68 ⟨Nat.zero_le _, Nat.zero_le _⟩) (fun H locs Y => ?_)
      cases hF
      exact hp_ri X Y rfl rfl dX6_put_71
    · have hF := hp_ifn (c1) hF
      refine lv_aload_n X.1 X.2.1 dX6_put_43 rfl (lv_at hl 0 rfl) ?_
      obtain ⟨v6, e7, hF⟩ := hp_b hF
      refine hp_getr X Y (C := RX6) (T := TX6) (N := 14) (ci := 6) (k := 0) rfl inX6_put_X6 (by decide) lkX6_put_f7 e7 dX6_put_44 ?_
      refine lv_sipush (v := 320) X.1 X.2.1 dX6_put_47 (by decide) ?_
      refine lv_iload_n X.1 X.2.1 dX6_put_50 rfl (lv_at hl 1 rfl) ?_
      refine lv_imul X.1 X.2.1 dX6_put_51 ?_
      refine lv_iload X.1 X.2.1 dX6_put_52 (lv_at hl 4 rfl) ?_
      refine lv_iadd X.1 X.2.1 dX6_put_54 ?_
      refine lv_aload_n X.1 X.2.1 dX6_put_55 rfl (lv_at hl 2 rfl) ?_
      refine lv_iload X.1 X.2.1 dX6_put_56 (lv_at hl 4 rfl) ?_
      obtain ⟨v8, e9, hF⟩ := hp_b hF
      refine hp_iald X Y e9 dX6_put_58 ?_
      obtain ⟨h10, e11, hF⟩ := hp_b hF
      refine hp_iast X Y e11 dX6_put_59 (fun H locs Y => ?_)
      obtain ⟨v12, e13, hF⟩ := hp_b hF
      refine lv_iinc (v := v12) (lv' := [(5, .int v12), (0, .ref x0), (1, .int x1), (2, .ref x2), (3, .int x3)]) X.1 X.2.1 dX6_put_60 hl (k := 4) rfl (Option.some.inj e13) (by decide) rfl (fun ls hl => ?_)
      refine lv_goto (tgt := 37) X.1 X.2.1 dX6_put_63 (by decide) ?_
      exact ih Y (lv_sub hl [1, 2, 3, 4, 0] rfl) hF
set_option maxRecDepth 100000 in
set_option maxHeartbeats 4000000 in
theorem wX6_put_33 {p : Program} {l : Launch} {e : Env} {s : State} {m : MethodId} {args : Array Value} {below : List Frame} {meth : Method} {c : Code} {G : hp_G} {h0 h' : hp_H} {r : Int32} (X : hp_X p s m args meth c cX6_put 6 RX6 wsX6_put (some .int) G)  {x0 : Nat} {x1 : Int32} {x2 : Nat} {x3 : Int32}   {t0 : Nat} {t1 : Int32} {t2 : Int32} {h : hp_H} {H : Heap} {locs : List Loc} {ls : Array Slot} (Y : hp_Y G h h0 s H locs) (hl : lv_has ls 6 [(0, .ref x0), (1, .int x1), (2, .ref x2), (3, .int x3)]) (hF : bX6_put_33 x0 x1 x2 x3 t0 t1 t2 h = some (r, h')) : W p l e rmX6_put s m args below meth c H locs 0 0 (MQ below (va_Qi (fun r' u => r' = r ∧ u = h') (hp_B G h0) (hp_A h0)) args s 0 0 (hp_A h0)) (F0 m 33 ls [.int t2, .int t1, .ref t0]) := by
  unfold bX6_put_33 at hF
  obtain ⟨h1, e2, hF⟩ := hp_b hF
  refine hp_iast X Y e2 dX6_put_33 (fun H locs Y => ?_)
  refine lv_iconst (v := 0) X.1 X.2.1 dX6_put_34 (by decide) ?_
  refine lv_istore (lv' := [(5, .int (0 : Int32)), (0, .ref x0), (1, .int x1), (2, .ref x2), (3, .int x3)]) X.1 X.2.1 dX6_put_35 hl (by decide) rfl (fun ls hl => ?_)
  exact wX6_put_37 X  hp_n Y (lv_sub hl [1, 2, 3, 4, 0] rfl) hF
theorem oX6_put {x0 : Nat} {x1 : Int32} {x2 : Nat} {x3 : Int32} {x4 : Int32} {h h' : hp_H} {r : Int32} (hF : fX6_put x0 x1 x2 x3 x4 h = some (r, h')) : hp_o h x0 6 = true := by
  unfold fX6_put at hF
  exact (hp_ift hF).1
set_option maxRecDepth 100000 in
set_option maxHeartbeats 4000000 in
theorem mX6_put (l : Launch) (G : hp_G) {x0 : Nat} {x1 : Int32} {x2 : Nat} {x3 : Int32} {x4 : Int32} {h h' : hp_H} {r : Int32} (hF : fX6_put x0 x1 x2 x3 x4 h = some (r, h')) : Met l yX6_put wsX6_put rmX6_put (va_Pc [.ref x0, .int x1, .ref x2, .int x3, .int x4] (hp_S G h)) (va_Qi (fun r' u => r' = r ∧ u = h') (hp_B G h) (hp_A h)) 0 0 (hp_A h) := by
  refine hp_met (cc := cX6_put) (nL := 6) (ret := (some .int)) (by decide) rfl ?_
  intro p e s m below meth c X Y
  have hl := lv_entry ([.ref x0, .int x1, .ref x2, .int x3, .int x4]) (n := 6) (Nat.le_of_ble_eq_true rfl)
  rw [lg_entry_eq]
  generalize (lg_sl ([.ref x0, .int x1, .ref x2, .int x3, .int x4]) ++ List.replicate (6 - (lg_sl ([.ref x0, .int x1, .ref x2, .int x3, .int x4])).length) Slot.unset).toArray = ls at hl ⊢
  have hl : lv_has ls 6 [(0, .ref x0), (1, .int x1), (2, .ref x2), (3, .int x3), (4, .int x4)] := hl
  unfold fX6_put at hF
  obtain ⟨ho, hF⟩ := hp_ift hF
  refine lv_aload_n X.1 X.2.1 dX6_put_0 rfl (lv_at hl 0 rfl) ?_
  refine lv_aload_n X.1 X.2.1 dX6_put_1 rfl (lv_at hl 2 rfl) ?_
  refine lv_iload_n X.1 X.2.1 dX6_put_2 rfl (lv_at hl 3 rfl) ?_
  obtain ⟨v2, e1, hF⟩ := hp_b hF
  refine hp_ci Y (hp_runV X Y (ci := 6) (As := [.ref x2, .int x3]) (n := 2) (T := TX6) (N := 14) (mX6_isWithin l G e1) rfl (oX6_isWithin e1) gX6_put_X6_isWithin rfl rfl rfl ndX6_isWithin ⟨Nat.le_of_ble_eq_true rfl, Nat.le_of_ble_eq_true rfl⟩ rfl hl.1 rfl (Nat.le_of_ble_eq_true rfl) dX6_put_3 ⟨Nat.zero_le _, Nat.zero_le _⟩) (fun H locs Y => ?_)
  refine lv_if_ne (tgt := 11) X.1 X.2.1 dX6_put_6 (by decide) (fun c3 => ?_) (fun c3 => ?_)
  · have hF := hp_ifn (c3) hF
    refine lv_aload_n X.1 X.2.1 dX6_put_11 rfl (lv_at hl 0 rfl) ?_
    obtain ⟨v4, e5, hF⟩ := hp_b hF
    refine hp_getr X Y (C := RX6) (T := TX6) (N := 14) (ci := 6) (k := 1) rfl inX6_put_X6 (by decide) lkX6_put_f13 e5 dX6_put_12 ?_
    refine lv_iload_n X.1 X.2.1 dX6_put_15 rfl (lv_at hl 1 rfl) ?_
    refine lv_iload_n X.1 X.2.1 dX6_put_16 rfl (lv_at hl 3 rfl) ?_
    obtain ⟨h6, e7, hF⟩ := hp_b hF
    refine hp_iast X Y e7 dX6_put_17 (fun H locs Y => ?_)
    refine lv_aload_n X.1 X.2.1 dX6_put_18 rfl (lv_at hl 0 rfl) ?_
    obtain ⟨v8, e9, hF⟩ := hp_b hF
    refine hp_getr X Y (C := RX6) (T := TX6) (N := 14) (ci := 6) (k := 2) rfl inX6_put_X6 (by decide) lkX6_put_f16 e9 dX6_put_19 ?_
    refine lv_iload_n X.1 X.2.1 dX6_put_22 rfl (lv_at hl 1 rfl) ?_
    refine lv_iload_n X.1 X.2.1 dX6_put_23 rfl (lv_at hl 3 rfl) ?_
    refine lv_if_ne (tgt := 31) X.1 X.2.1 dX6_put_24 (by decide) (fun c10 => ?_) (fun c10 => ?_)
    · have hF := hp_ifn (c10) hF
      refine lv_iload X.1 X.2.1 dX6_put_31 (lv_at hl 4 rfl) ?_
      exact wX6_put_33 X  Y (lv_sub hl [0, 1, 2, 3] rfl) hF
    · have hF := hp_ifp (c10) hF
      refine lv_iconst (v := 0) X.1 X.2.1 dX6_put_27 (by decide) ?_
      refine lv_goto (tgt := 33) X.1 X.2.1 dX6_put_28 (by decide) ?_
      exact wX6_put_33 X  Y (lv_sub hl [0, 1, 2, 3] rfl) hF
  · have hF := hp_ifp (c3) hF
    refine lv_iconst (v := -1) X.1 X.2.1 dX6_put_9 (by decide) ?_
    cases hF
    exact hp_ri X Y rfl rfl dX6_put_10

/-! WholeNumbersModel.load -/
def rmX6_load : Room := { frames := 1, cells := 0, slots := 0, locals := 20 }
def bX6_load_112   (t0 : Nat) (t1 : Int32) (t2 : Int32) (h : hp_H) : Option (Int32 × hp_H) :=
  (hp_si h 0 t0 t1 t2).bind fun h1 =>
  some ((1 : Int32), h1)
def bX6_load_62 (k20 : Int64 → Int32 → hp_H → Option (Int32 × hp_H)) (x0 : Nat) (x1 : Int32) (x2 : Int64) (x4 : Int64) (x6 : Int32) (t0 : Nat) (t1 : Int32) (t2 : Int64) (h : hp_H) : Option (Int32 × hp_H) :=
  (hp_si h 0 t0 t1 (Int64.toInt32 t2)).bind fun h1 =>
  (some (x4 / (10000 : Int64))).bind fun v3 =>
  (some (x6 + (1 : Int32))).bind fun v5 =>
  k20 v3 v5 h1
def bX6_load_20  (x0 : Nat) (x1 : Int32) (x2 : Int64) : Nat → Int64 → Int32 → hp_H → Option (Int32 × hp_H)
  | 0, _, _, _ => none
  | n + 1, x4, x6, h =>
  if x4 = (0 : Int64) then (
    (hp_gr h x0 6 1).bind fun v2 =>
    (hp_si h 0 v2 x1 x6).bind fun h4 =>
    (hp_gr h4 x0 6 2).bind fun v6 =>
    if (0 : Int64) ≤ x2 then (
      if x2 ≤ (0 : Int64) then (
        bX6_load_112 v6 x1 (0 : Int32) h4)
      else (
        bX6_load_112 v6 x1 (1 : Int32) h4))
    else (
      bX6_load_112 v6 x1 (-1 : Int32) h4))
  else (
    (some (hp_lrem x4 (10000 : Int64))).bind fun v10 =>
    (hp_gr h x0 6 0).bind fun v12 =>
    if (0 : Int64) ≤ v10 then (
      bX6_load_62 (bX6_load_20 x0 x1 x2 n) x0 x1 x2 x4 x6 v12 (((320 : Int32) * x1) + x6) v10 h)
    else (
      bX6_load_62 (bX6_load_20 x0 x1 x2 n) x0 x1 x2 x4 x6 v12 (((320 : Int32) * x1) + x6) (-v10) h))
def fX6_load (x0 : Nat) (x1 : Int32) (x2 : Int64) (h : hp_H) : Option (Int32 × hp_H) :=
  if hp_o h x0 6 = true then
  (hp_pv h x0 6 11 (.int (0 : Int32))).bind fun h1 =>
  (fX6_isRegister x1).bind fun v4 =>
  if v4 = 0 then (
    some ((0 : Int32), h1))
  else (
    bX6_load_20 x0 x1 x2 hp_n x2 (0 : Int32) h1)
  else none
theorem inX6_load_X6 : ∀ w ∈ wsX60, w ∈ wsX6_load := by decide +kernel
theorem lkX6_load_c81 : Cond.constantLong RX6 81 (10000) ∈ wsX6_load := by decide +kernel
theorem lkX6_load_f13 : Cond.fieldLink RX6 13 (TX6 1).1 (TX6 1).2.1 (TX6 1).2.2.1 ∈ wsX6_load := by decide +kernel
theorem lkX6_load_f16 : Cond.fieldLink RX6 16 (TX6 2).1 (TX6 2).2.1 (TX6 2).2.2.1 ∈ wsX6_load := by decide +kernel
theorem lkX6_load_f7 : Cond.fieldLink RX6 7 (TX6 0).1 (TX6 0).2.1 (TX6 0).2.2.1 ∈ wsX6_load := by decide +kernel
theorem lkX6_load_f45 : Cond.fieldLink RX6 45 (TX6 11).1 (TX6 11).2.1 (TX6 11).2.2.1 ∈ wsX6_load := by decide +kernel
theorem ndX6_load : yX6_load.cls ≠ "java/lang/invoke/MethodHandle" ∧ yX6_load.cls ≠ "java/lang/invoke/VarHandle" ∧ (parseMethodDescriptor yX6_load.desc).map (fun d => d.parameters.length) = some 2 := by decide +kernel
set_option maxRecDepth 100000 in
set_option maxHeartbeats 4000000 in
theorem wX6_load_112 {p : Program} {l : Launch} {e : Env} {s : State} {m : MethodId} {args : Array Value} {below : List Frame} {meth : Method} {c : Code} {G : hp_G} {h0 h' : hp_H} {r : Int32} (X : hp_X p s m args meth c cX6_load 9 RX6 wsX6_load (some .boolean) G)     {t0 : Nat} {t1 : Int32} {t2 : Int32} {h : hp_H} {H : Heap} {locs : List Loc} {ls : Array Slot} (Y : hp_Y G h h0 s H locs) (hl : lv_has ls 9 []) (hF : bX6_load_112  t0 t1 t2 h = some (r, h')) : W p l e rmX6_load s m args below meth c H locs 0 0 (MQ below (va_Qi (fun r' u => r' = r ∧ u = h') (hp_B G h0) (hp_A h0)) args s 0 0 (hp_A h0)) (F0 m 112 ls [.int t2, .int t1, .ref t0]) := by
  unfold bX6_load_112 at hF
  obtain ⟨h1, e2, hF⟩ := hp_b hF
  refine hp_iast X Y e2 dX6_load_112 (fun H locs Y => ?_)
  refine lv_iconst (v := 1) X.1 X.2.1 dX6_load_113 (by decide) ?_
  cases hF
  exact hp_ri X Y rfl rfl dX6_load_114
set_option maxRecDepth 100000 in
set_option maxHeartbeats 4000000 in
theorem wX6_load_62 {p : Program} {l : Launch} {e : Env} {s : State} {m : MethodId} {args : Array Value} {below : List Frame} {meth : Method} {c : Code} {G : hp_G} {h0 h' : hp_H} {r : Int32} (X : hp_X p s m args meth c cX6_load 9 RX6 wsX6_load (some .boolean) G) {k20 : Int64 → Int32 → hp_H → Option (Int32 × hp_H)} {x0 : Nat} {x1 : Int32} {x2 : Int64} {x4 : Int64} {x6 : Int32}  (hk20 : ∀ (y4 : Int64) (y6 : Int32) (h : hp_H) (H : Heap) (locs : List Loc) (ls : Array Slot), hp_Y G h h0 s H locs → lv_has ls 9 [(0, .ref x0), (1, .int x1), (2, .long x2), (4, .long y4), (6, .int y6)] → k20 y4 y6 h = some (r, h') → W p l e rmX6_load s m args below meth c H locs 0 0 (MQ below (va_Qi (fun r' u => r' = r ∧ u = h') (hp_B G h0) (hp_A h0)) args s 0 0 (hp_A h0)) (F0 m 20 ls [])) {t0 : Nat} {t1 : Int32} {t2 : Int64} {h : hp_H} {H : Heap} {locs : List Loc} {ls : Array Slot} (Y : hp_Y G h h0 s H locs) (hl : lv_has ls 9 [(0, .ref x0), (1, .int x1), (2, .long x2), (4, .long x4), (6, .int x6)]) (hF : bX6_load_62 k20 x0 x1 x2 x4 x6 t0 t1 t2 h = some (r, h')) : W p l e rmX6_load s m args below meth c H locs 0 0 (MQ below (va_Qi (fun r' u => r' = r ∧ u = h') (hp_B G h0) (hp_A h0)) args s 0 0 (hp_A h0)) (F0 m 62 ls [.long t2, .int t1, .ref t0]) := by
  unfold bX6_load_62 at hF
  refine lv_l2i (v := Int64.toInt32 t2) X.1 X.2.1 dX6_load_62 rfl ?_
  obtain ⟨h1, e2, hF⟩ := hp_b hF
  refine hp_iast X Y e2 dX6_load_63 (fun H locs Y => ?_)
  refine lv_lload X.1 X.2.1 dX6_load_64 (lv_at hl 3 rfl) ?_
  refine lv_ldc2 (v := 10000) X.1 X.2.1 X.2.2.2.1 (X.2.2.2.2.1 _ lkX6_load_c81) dX6_load_66 ?_
  refine lv_ldiv X.1 X.2.1 dX6_load_69 (by decide) ?_
  obtain ⟨v3, e4, hF⟩ := hp_b hF
  refine hp_tj (Option.some.inj e4) ?_
  refine lv_lstore (lv' := [(4, .long v3), (0, .ref x0), (1, .int x1), (2, .long x2), (6, .int x6)]) X.1 X.2.1 dX6_load_70 hl (by decide) rfl (fun ls hl => ?_)
  obtain ⟨v5, e6, hF⟩ := hp_b hF
  refine lv_iinc (v := v5) (lv' := [(6, .int v5), (4, .long v3), (0, .ref x0), (1, .int x1), (2, .long x2)]) X.1 X.2.1 dX6_load_72 hl (k := 4) rfl (Option.some.inj e6) (by decide) rfl (fun ls hl => ?_)
  refine lv_goto (tgt := 20) X.1 X.2.1 dX6_load_75 (by decide) ?_
  exact hk20 _ _ _  _ _ _ Y (lv_sub hl [2, 3, 4, 1, 0] rfl) hF
set_option maxRecDepth 100000 in
set_option maxHeartbeats 4000000 in
theorem wX6_load_20 {p : Program} {l : Launch} {e : Env} {s : State} {m : MethodId} {args : Array Value} {below : List Frame} {meth : Method} {c : Code} {G : hp_G} {h0 h' : hp_H} {r : Int32} (X : hp_X p s m args meth c cX6_load 9 RX6 wsX6_load (some .boolean) G)  {x0 : Nat} {x1 : Int32} {x2 : Int64}   : ∀ (n : Nat) {x4 : Int64} {x6 : Int32} {h : hp_H} {H : Heap} {locs : List Loc} {ls : Array Slot} (Y : hp_Y G h h0 s H locs) (hl : lv_has ls 9 [(0, .ref x0), (1, .int x1), (2, .long x2), (4, .long x4), (6, .int x6)]) (hF : bX6_load_20 x0 x1 x2 n x4 x6 h = some (r, h')), W p l e rmX6_load s m args below meth c H locs 0 0 (MQ below (va_Qi (fun r' u => r' = r ∧ u = h') (hp_B G h0) (hp_A h0)) args s 0 0 (hp_A h0)) (F0 m 20 ls []) := by
  intro n
  induction n with
  | zero =>
    intro x4 x6 h H locs ls Y hl hF
    exact absurd (show none = some _ from hF) (by simp)
  | succ n ih =>
    intro x4 x6 h H locs ls Y hl hF
    rw [bX6_load_20] at hF
    refine lv_lload X.1 X.2.1 dX6_load_20 (lv_at hl 3 rfl) ?_
    refine lv_lconst (v := 0) X.1 X.2.1 dX6_load_22 (by decide) ?_
    refine W.lcmp X.1 X.2.1 dX6_load_23 ?_
    refine lv_if_eq (tgt := 78) X.1 X.2.1 dX6_load_24 (by decide) (fun c1 => ?_) (fun c1 => ?_)
    · have hF := hp_ifp ((lg_cmp_eq x4 (0 : Int64)).mp c1) hF
      refine lv_aload_n X.1 X.2.1 dX6_load_78 rfl (lv_at hl 0 rfl) ?_
      obtain ⟨v2, e3, hF⟩ := hp_b hF
      refine hp_getr X Y (C := RX6) (T := TX6) (N := 14) (ci := 6) (k := 1) rfl inX6_load_X6 (by decide) lkX6_load_f13 e3 dX6_load_79 ?_
      refine lv_iload_n X.1 X.2.1 dX6_load_82 rfl (lv_at hl 1 rfl) ?_
      refine lv_iload X.1 X.2.1 dX6_load_83 (lv_at hl 4 rfl) ?_
      obtain ⟨h4, e5, hF⟩ := hp_b hF
      refine hp_iast X Y e5 dX6_load_85 (fun H locs Y => ?_)
      refine lv_aload_n X.1 X.2.1 dX6_load_86 rfl (lv_at hl 0 rfl) ?_
      obtain ⟨v6, e7, hF⟩ := hp_b hF
      refine hp_getr X Y (C := RX6) (T := TX6) (N := 14) (ci := 6) (k := 2) rfl inX6_load_X6 (by decide) lkX6_load_f16 e7 dX6_load_87 ?_
      refine lv_iload_n X.1 X.2.1 dX6_load_90 rfl (lv_at hl 1 rfl) ?_
      refine lv_lload_n X.1 X.2.1 dX6_load_91 rfl (lv_at hl 2 rfl) ?_
      refine lv_lconst (v := 0) X.1 X.2.1 dX6_load_92 (by decide) ?_
      refine W.lcmp X.1 X.2.1 dX6_load_93 ?_
      refine lv_if_ge (tgt := 101) X.1 X.2.1 dX6_load_94 (by decide) (fun c8 => ?_) (fun c8 => ?_)
      · have hF := hp_ifp ((lg_cmp_ge x2 (0 : Int64)).mp c8) hF
        refine lv_lload_n X.1 X.2.1 dX6_load_101 rfl (lv_at hl 2 rfl) ?_
        refine lv_lconst (v := 0) X.1 X.2.1 dX6_load_102 (by decide) ?_
        refine W.lcmp X.1 X.2.1 dX6_load_103 ?_
        refine lv_if_le (tgt := 111) X.1 X.2.1 dX6_load_104 (by decide) (fun c9 => ?_) (fun c9 => ?_)
        · have hF := hp_ifp ((lg_cmp_le x2 (0 : Int64)).mp c9) hF
          refine lv_iconst (v := 0) X.1 X.2.1 dX6_load_111 (by decide) ?_
          exact wX6_load_112 X  Y (lv_sub hl [] rfl) hF
        · have hF := hp_ifn (fun z => c9 ((lg_cmp_le x2 (0 : Int64)).mpr z)) hF
          refine lv_iconst (v := 1) X.1 X.2.1 dX6_load_107 (by decide) ?_
          refine lv_goto (tgt := 112) X.1 X.2.1 dX6_load_108 (by decide) ?_
          exact wX6_load_112 X  Y (lv_sub hl [] rfl) hF
      · have hF := hp_ifn (fun z => c8 ((lg_cmp_ge x2 (0 : Int64)).mpr z)) hF
        refine lv_iconst (v := -1) X.1 X.2.1 dX6_load_97 (by decide) ?_
        refine lv_goto (tgt := 112) X.1 X.2.1 dX6_load_98 (by decide) ?_
        exact wX6_load_112 X  Y (lv_sub hl [] rfl) hF
    · have hF := hp_ifn (fun z => c1 ((lg_cmp_eq x4 (0 : Int64)).mpr z)) hF
      refine lv_lload X.1 X.2.1 dX6_load_27 (lv_at hl 3 rfl) ?_
      refine lv_ldc2 (v := 10000) X.1 X.2.1 X.2.2.2.1 (X.2.2.2.2.1 _ lkX6_load_c81) dX6_load_29 ?_
      refine lv_lrem X.1 X.2.1 dX6_load_32 (by decide) ?_
      obtain ⟨v10, e11, hF⟩ := hp_b hF
      refine hp_tj (Option.some.inj e11) ?_
      refine lv_lstore (lv' := [(7, .long v10), (0, .ref x0), (1, .int x1), (2, .long x2), (4, .long x4), (6, .int x6)]) X.1 X.2.1 dX6_load_33 hl (by decide) rfl (fun ls hl => ?_)
      refine lv_aload_n X.1 X.2.1 dX6_load_35 rfl (lv_at hl 1 rfl) ?_
      obtain ⟨v12, e13, hF⟩ := hp_b hF
      refine hp_getr X Y (C := RX6) (T := TX6) (N := 14) (ci := 6) (k := 0) rfl inX6_load_X6 (by decide) lkX6_load_f7 e13 dX6_load_36 ?_
      refine lv_sipush (v := 320) X.1 X.2.1 dX6_load_39 (by decide) ?_
      refine lv_iload_n X.1 X.2.1 dX6_load_42 rfl (lv_at hl 2 rfl) ?_
      refine lv_imul X.1 X.2.1 dX6_load_43 ?_
      refine lv_iload X.1 X.2.1 dX6_load_44 (lv_at hl 5 rfl) ?_
      refine lv_iadd X.1 X.2.1 dX6_load_46 ?_
      refine lv_lload X.1 X.2.1 dX6_load_47 (lv_at hl 0 rfl) ?_
      refine lv_lconst (v := 0) X.1 X.2.1 dX6_load_49 (by decide) ?_
      refine W.lcmp X.1 X.2.1 dX6_load_50 ?_
      refine lv_if_ge (tgt := 60) X.1 X.2.1 dX6_load_51 (by decide) (fun c14 => ?_) (fun c14 => ?_)
      · have hF := hp_ifp ((lg_cmp_ge v10 (0 : Int64)).mp c14) hF
        refine lv_lload X.1 X.2.1 dX6_load_60 (lv_at hl 0 rfl) ?_
        exact wX6_load_62 X (fun _ _ _ _ _ _ Y hl hF => ih Y hl hF) Y (lv_sub hl [1, 2, 3, 4, 5] rfl) hF
      · have hF := hp_ifn (fun z => c14 ((lg_cmp_ge v10 (0 : Int64)).mpr z)) hF
        refine lv_lload X.1 X.2.1 dX6_load_54 (lv_at hl 0 rfl) ?_
        refine lv_lneg X.1 X.2.1 dX6_load_56 ?_
        refine lv_goto (tgt := 62) X.1 X.2.1 dX6_load_57 (by decide) ?_
        exact wX6_load_62 X (fun _ _ _ _ _ _ Y hl hF => ih Y hl hF) Y (lv_sub hl [1, 2, 3, 4, 5] rfl) hF
theorem oX6_load {x0 : Nat} {x1 : Int32} {x2 : Int64} {h h' : hp_H} {r : Int32} (hF : fX6_load x0 x1 x2 h = some (r, h')) : hp_o h x0 6 = true := by
  unfold fX6_load at hF
  exact (hp_ift hF).1
set_option maxRecDepth 100000 in
set_option maxHeartbeats 4000000 in
theorem mX6_load (l : Launch) (G : hp_G) {x0 : Nat} {x1 : Int32} {x2 : Int64} {h h' : hp_H} {r : Int32} (hF : fX6_load x0 x1 x2 h = some (r, h')) : Met l yX6_load wsX6_load rmX6_load (va_Pc [.ref x0, .int x1, .long x2] (hp_S G h)) (va_Qi (fun r' u => r' = r ∧ u = h') (hp_B G h) (hp_A h)) 0 0 (hp_A h) := by
  refine hp_met (cc := cX6_load) (nL := 9) (ret := (some .boolean)) (by decide) rfl ?_
  intro p e s m below meth c X Y
  have hl := lv_entry ([.ref x0, .int x1, .long x2]) (n := 9) (Nat.le_of_ble_eq_true rfl)
  rw [lg_entry_eq]
  generalize (lg_sl ([.ref x0, .int x1, .long x2]) ++ List.replicate (9 - (lg_sl ([.ref x0, .int x1, .long x2])).length) Slot.unset).toArray = ls at hl ⊢
  have hl : lv_has ls 9 [(0, .ref x0), (1, .int x1), (2, .long x2)] := hl
  unfold fX6_load at hF
  obtain ⟨ho, hF⟩ := hp_ift hF
  refine lv_aload_n X.1 X.2.1 dX6_load_0 rfl (lv_at hl 0 rfl) ?_
  refine lv_iconst (v := 0) X.1 X.2.1 dX6_load_1 (by decide) ?_
  obtain ⟨h1, e2, hF⟩ := hp_b hF
  refine hp_put X Y (C := RX6) (T := TX6) (N := 14) (ci := 6) (k := 11) (ty0 := tyX6) rfl inX6_load_X6 tyX6_ok nmX6 (by decide) lkX6_load_f45 rfl rfl rfl e2 dX6_load_2 (fun H locs Y => ?_)
  refine lv_iload_n X.1 X.2.1 dX6_load_5 rfl (lv_at hl 1 rfl) ?_
  obtain ⟨v4, e3, hF⟩ := hp_b hF
  refine hp_ci Y (hp_runS X Y (As := [.int x1]) (n := 1) (mX6_isRegister l G e3) gX6_load_X6_isRegister rfl rfl rfl ndX6_isRegister ⟨Nat.le_of_ble_eq_true rfl, Nat.le_of_ble_eq_true rfl⟩ rfl hl.1 rfl (Nat.le_of_ble_eq_true rfl) dX6_load_6 ⟨Nat.zero_le _, Nat.zero_le _⟩) (fun H locs Y => ?_)
  refine lv_if_ne (tgt := 14) X.1 X.2.1 dX6_load_9 (by decide) (fun c5 => ?_) (fun c5 => ?_)
  · have hF := hp_ifn (c5) hF
    refine lv_lload_n X.1 X.2.1 dX6_load_14 rfl (lv_at hl 2 rfl) ?_
    refine lv_lstore (lv' := [(4, .long x2), (0, .ref x0), (1, .int x1), (2, .long x2)]) X.1 X.2.1 dX6_load_15 hl (by decide) rfl (fun ls hl => ?_)
    refine lv_iconst (v := 0) X.1 X.2.1 dX6_load_17 (by decide) ?_
    refine lv_istore (lv' := [(6, .int (0 : Int32)), (4, .long x2), (0, .ref x0), (1, .int x1), (2, .long x2)]) X.1 X.2.1 dX6_load_18 hl (by decide) rfl (fun ls hl => ?_)
    exact wX6_load_20 X  hp_n Y (lv_sub hl [2, 3, 4, 1, 0] rfl) hF
  · have hF := hp_ifp (c5) hF
    refine lv_iconst (v := 0) X.1 X.2.1 dX6_load_12 (by decide) ?_
    cases hF
    exact hp_ri X Y rfl rfl dX6_load_13

/-! WholeNumbersModel.sum -/
def rmX6_sum : Room := { frames := 2, cells := 0, slots := 0, locals := 48 }
def bX6_sum_126  (x0 : Nat) (x2 : Int32) : Nat → Int32 → hp_H → Option (Int32 × hp_H)
  | 0, _, _ => none
  | n + 1, x3, h =>
  (hp_gi h x0 6 9).bind fun v1 =>
  if v1 ≤ x3 then (
    some (x2, h))
  else (
    (hp_gr h x0 6 5).bind fun v4 =>
    (hp_gr h x0 6 6).bind fun v6 =>
    (hp_ai h 0 v6 x3).bind fun v8 =>
    (hp_si h 0 v4 x3 v8).bind fun h10 =>
    (some (x3 + (1 : Int32))).bind fun v12 =>
    bX6_sum_126 x0 x2 n v12 h10)
def bX6_sum_13  (x0 : Nat) (x1 : Int32) (x2 : Int32)  (h : hp_H) : Option (Int32 × hp_H) :=
  (hp_gr h x0 6 5).bind fun v1 =>
  (hp_gi h x0 6 8).bind fun v3 =>
  (hp_gr h x0 6 6).bind fun v5 =>
  (hp_gi h x0 6 9).bind fun v7 =>
  (fX6_added v1 v3 v5 v7 h).bind fun (v11, h10) =>
  (hp_pv h10 x0 6 8 (.int v11)).bind fun h13 =>
  if x1 = 0 then (
    some (x2, h13))
  else (
    some (x1, h13))
def fX6_sum (x0 : Nat) (x1 : Int32) (x2 : Int32) (h : hp_H) : Option (Int32 × hp_H) :=
  if hp_o h x0 6 = true then
  if x1 = 0 then (
    bX6_sum_13 x0 x1 x2 h)
  else (
    if x2 = 0 then (
      bX6_sum_13 x0 x1 x2 h)
    else (
      if x1 = x2 then (
        bX6_sum_13 x0 x1 x2 h)
      else (
        (hp_gr h x0 6 5).bind fun v4 =>
        (hp_gi h x0 6 8).bind fun v6 =>
        (hp_gr h x0 6 6).bind fun v8 =>
        (hp_gi h x0 6 9).bind fun v10 =>
        (fX6_compareRows v4 v6 v8 v10 h).bind fun v13 =>
        if v13 < 0 then (
          (hp_gr h x0 6 6).bind fun v15 =>
          (hp_gi h x0 6 9).bind fun v17 =>
          (hp_gr h x0 6 5).bind fun v19 =>
          (hp_gi h x0 6 8).bind fun v21 =>
          (fX6_taken v15 v17 v19 v21 h).bind fun (v25, h24) =>
          (hp_pv h24 x0 6 9 (.int v25)).bind fun h27 =>
          (hp_gi h27 x0 6 9).bind fun v29 =>
          (hp_pv h27 x0 6 8 (.int v29)).bind fun h31 =>
          bX6_sum_126 x0 x2 hp_n (0 : Int32) h31)
        else (
          (hp_gr h x0 6 5).bind fun v33 =>
          (hp_gi h x0 6 8).bind fun v35 =>
          (hp_gr h x0 6 6).bind fun v37 =>
          (hp_gi h x0 6 9).bind fun v39 =>
          (fX6_taken v33 v35 v37 v39 h).bind fun (v43, h42) =>
          (hp_pv h42 x0 6 8 (.int v43)).bind fun h45 =>
          some (x1, h45)))))
  else none
theorem inX6_sum_X6 : ∀ w ∈ wsX60, w ∈ wsX6_sum := by decide +kernel
theorem lkX6_sum_f55 : Cond.fieldLink RX6 55 (TX6 9).1 (TX6 9).2.1 (TX6 9).2.2.1 ∈ wsX6_sum := by decide +kernel
theorem lkX6_sum_f22 : Cond.fieldLink RX6 22 (TX6 5).1 (TX6 5).2.1 (TX6 5).2.2.1 ∈ wsX6_sum := by decide +kernel
theorem lkX6_sum_f25 : Cond.fieldLink RX6 25 (TX6 6).1 (TX6 6).2.1 (TX6 6).2.2.1 ∈ wsX6_sum := by decide +kernel
theorem lkX6_sum_f34 : Cond.fieldLink RX6 34 (TX6 8).1 (TX6 8).2.1 (TX6 8).2.2.1 ∈ wsX6_sum := by decide +kernel
theorem ndX6_sum : yX6_sum.cls ≠ "java/lang/invoke/MethodHandle" ∧ yX6_sum.cls ≠ "java/lang/invoke/VarHandle" ∧ (parseMethodDescriptor yX6_sum.desc).map (fun d => d.parameters.length) = some 2 := by decide +kernel
set_option maxRecDepth 100000 in
set_option maxHeartbeats 4000000 in
theorem wX6_sum_126 {p : Program} {l : Launch} {e : Env} {s : State} {m : MethodId} {args : Array Value} {below : List Frame} {meth : Method} {c : Code} {G : hp_G} {h0 h' : hp_H} {r : Int32} (X : hp_X p s m args meth c cX6_sum 4 RX6 wsX6_sum (some .int) G)  {x0 : Nat} {x2 : Int32}   : ∀ (n : Nat) {x3 : Int32} {h : hp_H} {H : Heap} {locs : List Loc} {ls : Array Slot} (Y : hp_Y G h h0 s H locs) (hl : lv_has ls 4 [(0, .ref x0), (2, .int x2), (3, .int x3)]) (hF : bX6_sum_126 x0 x2 n x3 h = some (r, h')), W p l e rmX6_sum s m args below meth c H locs 0 0 (MQ below (va_Qi (fun r' u => r' = r ∧ u = h') (hp_B G h0) (hp_A h0)) args s 0 0 (hp_A h0)) (F0 m 126 ls []) := by
  intro n
  induction n with
  | zero =>
    intro x3 h H locs ls Y hl hF
    exact absurd (show none = some _ from hF) (by simp)
  | succ n ih =>
    intro x3 h H locs ls Y hl hF
    rw [bX6_sum_126] at hF
    refine lv_iload_n X.1 X.2.1 dX6_sum_126 rfl (lv_at hl 2 rfl) ?_
    refine lv_aload_n X.1 X.2.1 dX6_sum_127 rfl (lv_at hl 0 rfl) ?_
    obtain ⟨v1, e2, hF⟩ := hp_b hF
    refine hp_geti X Y (C := RX6) (T := TX6) (N := 14) (ci := 6) (k := 9) rfl inX6_sum_X6 (by decide) lkX6_sum_f55 e2 dX6_sum_128 ?_
    refine lv_icmp_ge (tgt := 152) X.1 X.2.1 dX6_sum_131 (by decide) (fun c3 => ?_) (fun c3 => ?_)
    · have hF := hp_ifp (c3) hF
      refine lv_iload_n X.1 X.2.1 dX6_sum_152 rfl (lv_at hl 1 rfl) ?_
      cases hF
      exact hp_ri X Y rfl rfl dX6_sum_153
    · have hF := hp_ifn (c3) hF
      refine lv_aload_n X.1 X.2.1 dX6_sum_134 rfl (lv_at hl 0 rfl) ?_
      obtain ⟨v4, e5, hF⟩ := hp_b hF
      refine hp_getr X Y (C := RX6) (T := TX6) (N := 14) (ci := 6) (k := 5) rfl inX6_sum_X6 (by decide) lkX6_sum_f22 e5 dX6_sum_135 ?_
      refine lv_iload_n X.1 X.2.1 dX6_sum_138 rfl (lv_at hl 2 rfl) ?_
      refine lv_aload_n X.1 X.2.1 dX6_sum_139 rfl (lv_at hl 0 rfl) ?_
      obtain ⟨v6, e7, hF⟩ := hp_b hF
      refine hp_getr X Y (C := RX6) (T := TX6) (N := 14) (ci := 6) (k := 6) rfl inX6_sum_X6 (by decide) lkX6_sum_f25 e7 dX6_sum_140 ?_
      refine lv_iload_n X.1 X.2.1 dX6_sum_143 rfl (lv_at hl 2 rfl) ?_
      obtain ⟨v8, e9, hF⟩ := hp_b hF
      refine hp_iald X Y e9 dX6_sum_144 ?_
      obtain ⟨h10, e11, hF⟩ := hp_b hF
      refine hp_iast X Y e11 dX6_sum_145 (fun H locs Y => ?_)
      obtain ⟨v12, e13, hF⟩ := hp_b hF
      refine lv_iinc (v := v12) (lv' := [(3, .int v12), (0, .ref x0), (2, .int x2)]) X.1 X.2.1 dX6_sum_146 hl (k := 2) rfl (Option.some.inj e13) (by decide) rfl (fun ls hl => ?_)
      refine lv_goto (tgt := 126) X.1 X.2.1 dX6_sum_149 (by decide) ?_
      exact ih Y (lv_sub hl [1, 2, 0] rfl) hF
set_option maxRecDepth 100000 in
set_option maxHeartbeats 4000000 in
theorem wX6_sum_13 {p : Program} {l : Launch} {e : Env} {s : State} {m : MethodId} {args : Array Value} {below : List Frame} {meth : Method} {c : Code} {G : hp_G} {h0 h' : hp_H} {r : Int32} (X : hp_X p s m args meth c cX6_sum 4 RX6 wsX6_sum (some .int) G)  {x0 : Nat} {x1 : Int32} {x2 : Int32}   {h : hp_H} {H : Heap} {locs : List Loc} {ls : Array Slot} (Y : hp_Y G h h0 s H locs) (hl : lv_has ls 4 [(0, .ref x0), (1, .int x1), (2, .int x2)]) (hF : bX6_sum_13 x0 x1 x2 h = some (r, h')) : W p l e rmX6_sum s m args below meth c H locs 0 0 (MQ below (va_Qi (fun r' u => r' = r ∧ u = h') (hp_B G h0) (hp_A h0)) args s 0 0 (hp_A h0)) (F0 m 13 ls []) := by
  unfold bX6_sum_13 at hF
  refine lv_aload_n X.1 X.2.1 dX6_sum_13 rfl (lv_at hl 0 rfl) ?_
  refine lv_aload_n X.1 X.2.1 dX6_sum_14 rfl (lv_at hl 0 rfl) ?_
  obtain ⟨v1, e2, hF⟩ := hp_b hF
  refine hp_getr X Y (C := RX6) (T := TX6) (N := 14) (ci := 6) (k := 5) rfl inX6_sum_X6 (by decide) lkX6_sum_f22 e2 dX6_sum_15 ?_
  refine lv_aload_n X.1 X.2.1 dX6_sum_18 rfl (lv_at hl 0 rfl) ?_
  obtain ⟨v3, e4, hF⟩ := hp_b hF
  refine hp_geti X Y (C := RX6) (T := TX6) (N := 14) (ci := 6) (k := 8) rfl inX6_sum_X6 (by decide) lkX6_sum_f34 e4 dX6_sum_19 ?_
  refine lv_aload_n X.1 X.2.1 dX6_sum_22 rfl (lv_at hl 0 rfl) ?_
  obtain ⟨v5, e6, hF⟩ := hp_b hF
  refine hp_getr X Y (C := RX6) (T := TX6) (N := 14) (ci := 6) (k := 6) rfl inX6_sum_X6 (by decide) lkX6_sum_f25 e6 dX6_sum_23 ?_
  refine lv_aload_n X.1 X.2.1 dX6_sum_26 rfl (lv_at hl 0 rfl) ?_
  obtain ⟨v7, e8, hF⟩ := hp_b hF
  refine hp_geti X Y (C := RX6) (T := TX6) (N := 14) (ci := 6) (k := 9) rfl inX6_sum_X6 (by decide) lkX6_sum_f55 e8 dX6_sum_27 ?_
  obtain ⟨⟨v11, h10⟩, e9, hF⟩ := hp_b hF
  refine hp_ci Y (hp_runS X Y (As := [.ref v1, .int v3, .ref v5, .int v7]) (n := 4) (mX6_added l G e9) gX6_sum_X6_added rfl rfl rfl ndX6_added ⟨Nat.le_of_ble_eq_true rfl, Nat.le_of_ble_eq_true rfl⟩ rfl hl.1 rfl (Nat.le_of_ble_eq_true rfl) dX6_sum_30 ⟨Nat.zero_le _, Nat.zero_le _⟩) (fun H locs Y => ?_)
  obtain ⟨h13, e14, hF⟩ := hp_b hF
  refine hp_put X Y (C := RX6) (T := TX6) (N := 14) (ci := 6) (k := 8) (ty0 := tyX6) rfl inX6_sum_X6 tyX6_ok nmX6 (by decide) lkX6_sum_f34 rfl rfl rfl e14 dX6_sum_33 (fun H locs Y => ?_)
  refine lv_iload_n X.1 X.2.1 dX6_sum_36 rfl (lv_at hl 1 rfl) ?_
  refine lv_if_ne (tgt := 44) X.1 X.2.1 dX6_sum_37 (by decide) (fun c15 => ?_) (fun c15 => ?_)
  · have hF := hp_ifn (c15) hF
    refine lv_iload_n X.1 X.2.1 dX6_sum_44 rfl (lv_at hl 1 rfl) ?_
    cases hF
    exact hp_ri X Y rfl rfl dX6_sum_45
  · have hF := hp_ifp (c15) hF
    refine lv_iload_n X.1 X.2.1 dX6_sum_40 rfl (lv_at hl 2 rfl) ?_
    refine lv_goto (tgt := 45) X.1 X.2.1 dX6_sum_41 (by decide) ?_
    cases hF
    exact hp_ri X Y rfl rfl dX6_sum_45
theorem oX6_sum {x0 : Nat} {x1 : Int32} {x2 : Int32} {h h' : hp_H} {r : Int32} (hF : fX6_sum x0 x1 x2 h = some (r, h')) : hp_o h x0 6 = true := by
  unfold fX6_sum at hF
  exact (hp_ift hF).1
set_option maxRecDepth 100000 in
set_option maxHeartbeats 4000000 in
theorem mX6_sum (l : Launch) (G : hp_G) {x0 : Nat} {x1 : Int32} {x2 : Int32} {h h' : hp_H} {r : Int32} (hF : fX6_sum x0 x1 x2 h = some (r, h')) : Met l yX6_sum wsX6_sum rmX6_sum (va_Pc [.ref x0, .int x1, .int x2] (hp_S G h)) (va_Qi (fun r' u => r' = r ∧ u = h') (hp_B G h) (hp_A h)) 0 0 (hp_A h) := by
  refine hp_met (cc := cX6_sum) (nL := 4) (ret := (some .int)) (by decide) rfl ?_
  intro p e s m below meth c X Y
  have hl := lv_entry ([.ref x0, .int x1, .int x2]) (n := 4) (Nat.le_of_ble_eq_true rfl)
  rw [lg_entry_eq]
  generalize (lg_sl ([.ref x0, .int x1, .int x2]) ++ List.replicate (4 - (lg_sl ([.ref x0, .int x1, .int x2])).length) Slot.unset).toArray = ls at hl ⊢
  have hl : lv_has ls 4 [(0, .ref x0), (1, .int x1), (2, .int x2)] := hl
  unfold fX6_sum at hF
  obtain ⟨ho, hF⟩ := hp_ift hF
  refine lv_iload_n X.1 X.2.1 dX6_sum_0 rfl (lv_at hl 1 rfl) ?_
  refine lv_if_eq (tgt := 13) X.1 X.2.1 dX6_sum_1 (by decide) (fun c1 => ?_) (fun c1 => ?_)
  · have hF := hp_ifp (c1) hF
    exact wX6_sum_13 X  Y (lv_sub hl [0, 1, 2] rfl) hF
  · have hF := hp_ifn (c1) hF
    refine lv_iload_n X.1 X.2.1 dX6_sum_4 rfl (lv_at hl 2 rfl) ?_
    refine lv_if_eq (tgt := 13) X.1 X.2.1 dX6_sum_5 (by decide) (fun c2 => ?_) (fun c2 => ?_)
    · have hF := hp_ifp (c2) hF
      exact wX6_sum_13 X  Y (lv_sub hl [0, 1, 2] rfl) hF
    · have hF := hp_ifn (c2) hF
      refine lv_iload_n X.1 X.2.1 dX6_sum_8 rfl (lv_at hl 1 rfl) ?_
      refine lv_iload_n X.1 X.2.1 dX6_sum_9 rfl (lv_at hl 2 rfl) ?_
      refine lv_icmp_ne (tgt := 46) X.1 X.2.1 dX6_sum_10 (by decide) (fun c3 => ?_) (fun c3 => ?_)
      · have hF := hp_ifn (c3) hF
        refine lv_aload_n X.1 X.2.1 dX6_sum_46 rfl (lv_at hl 0 rfl) ?_
        obtain ⟨v4, e5, hF⟩ := hp_b hF
        refine hp_getr X Y (C := RX6) (T := TX6) (N := 14) (ci := 6) (k := 5) rfl inX6_sum_X6 (by decide) lkX6_sum_f22 e5 dX6_sum_47 ?_
        refine lv_aload_n X.1 X.2.1 dX6_sum_50 rfl (lv_at hl 0 rfl) ?_
        obtain ⟨v6, e7, hF⟩ := hp_b hF
        refine hp_geti X Y (C := RX6) (T := TX6) (N := 14) (ci := 6) (k := 8) rfl inX6_sum_X6 (by decide) lkX6_sum_f34 e7 dX6_sum_51 ?_
        refine lv_aload_n X.1 X.2.1 dX6_sum_54 rfl (lv_at hl 0 rfl) ?_
        obtain ⟨v8, e9, hF⟩ := hp_b hF
        refine hp_getr X Y (C := RX6) (T := TX6) (N := 14) (ci := 6) (k := 6) rfl inX6_sum_X6 (by decide) lkX6_sum_f25 e9 dX6_sum_55 ?_
        refine lv_aload_n X.1 X.2.1 dX6_sum_58 rfl (lv_at hl 0 rfl) ?_
        obtain ⟨v10, e11, hF⟩ := hp_b hF
        refine hp_geti X Y (C := RX6) (T := TX6) (N := 14) (ci := 6) (k := 9) rfl inX6_sum_X6 (by decide) lkX6_sum_f55 e11 dX6_sum_59 ?_
        obtain ⟨v13, e12, hF⟩ := hp_b hF
        refine hp_ci Y (hp_runS X Y (As := [.ref v4, .int v6, .ref v8, .int v10]) (n := 4) (mX6_compareRows l G e12) gX6_sum_X6_compareRows rfl rfl rfl ndX6_compareRows ⟨Nat.le_of_ble_eq_true rfl, Nat.le_of_ble_eq_true rfl⟩ rfl hl.1 rfl (Nat.le_of_ble_eq_true rfl) dX6_sum_62 ⟨Nat.zero_le _, Nat.zero_le _⟩) (fun H locs Y => ?_)
        refine lv_if_lt (tgt := 93) X.1 X.2.1 dX6_sum_65 (by decide) (fun c14 => ?_) (fun c14 => ?_)
        · have hF := hp_ifp (c14) hF
          refine lv_aload_n X.1 X.2.1 dX6_sum_93 rfl (lv_at hl 0 rfl) ?_
          refine lv_aload_n X.1 X.2.1 dX6_sum_94 rfl (lv_at hl 0 rfl) ?_
          obtain ⟨v15, e16, hF⟩ := hp_b hF
          refine hp_getr X Y (C := RX6) (T := TX6) (N := 14) (ci := 6) (k := 6) rfl inX6_sum_X6 (by decide) lkX6_sum_f25 e16 dX6_sum_95 ?_
          refine lv_aload_n X.1 X.2.1 dX6_sum_98 rfl (lv_at hl 0 rfl) ?_
          obtain ⟨v17, e18, hF⟩ := hp_b hF
          refine hp_geti X Y (C := RX6) (T := TX6) (N := 14) (ci := 6) (k := 9) rfl inX6_sum_X6 (by decide) lkX6_sum_f55 e18 dX6_sum_99 ?_
          refine lv_aload_n X.1 X.2.1 dX6_sum_102 rfl (lv_at hl 0 rfl) ?_
          obtain ⟨v19, e20, hF⟩ := hp_b hF
          refine hp_getr X Y (C := RX6) (T := TX6) (N := 14) (ci := 6) (k := 5) rfl inX6_sum_X6 (by decide) lkX6_sum_f22 e20 dX6_sum_103 ?_
          refine lv_aload_n X.1 X.2.1 dX6_sum_106 rfl (lv_at hl 0 rfl) ?_
          obtain ⟨v21, e22, hF⟩ := hp_b hF
          refine hp_geti X Y (C := RX6) (T := TX6) (N := 14) (ci := 6) (k := 8) rfl inX6_sum_X6 (by decide) lkX6_sum_f34 e22 dX6_sum_107 ?_
          obtain ⟨⟨v25, h24⟩, e23, hF⟩ := hp_b hF
          refine hp_ci Y (hp_runS X Y (As := [.ref v15, .int v17, .ref v19, .int v21]) (n := 4) (mX6_taken l G e23) gX6_sum_X6_taken rfl rfl rfl ndX6_taken ⟨Nat.le_of_ble_eq_true rfl, Nat.le_of_ble_eq_true rfl⟩ rfl hl.1 rfl (Nat.le_of_ble_eq_true rfl) dX6_sum_110 ⟨Nat.zero_le _, Nat.zero_le _⟩) (fun H locs Y => ?_)
          obtain ⟨h27, e28, hF⟩ := hp_b hF
          refine hp_put X Y (C := RX6) (T := TX6) (N := 14) (ci := 6) (k := 9) (ty0 := tyX6) rfl inX6_sum_X6 tyX6_ok nmX6 (by decide) lkX6_sum_f55 rfl rfl rfl e28 dX6_sum_113 (fun H locs Y => ?_)
          refine lv_aload_n X.1 X.2.1 dX6_sum_116 rfl (lv_at hl 0 rfl) ?_
          refine lv_aload_n X.1 X.2.1 dX6_sum_117 rfl (lv_at hl 0 rfl) ?_
          obtain ⟨v29, e30, hF⟩ := hp_b hF
          refine hp_geti X Y (C := RX6) (T := TX6) (N := 14) (ci := 6) (k := 9) rfl inX6_sum_X6 (by decide) lkX6_sum_f55 e30 dX6_sum_118 ?_
          obtain ⟨h31, e32, hF⟩ := hp_b hF
          refine hp_put X Y (C := RX6) (T := TX6) (N := 14) (ci := 6) (k := 8) (ty0 := tyX6) rfl inX6_sum_X6 tyX6_ok nmX6 (by decide) lkX6_sum_f34 rfl rfl rfl e32 dX6_sum_121 (fun H locs Y => ?_)
          refine lv_iconst (v := 0) X.1 X.2.1 dX6_sum_124 (by decide) ?_
          refine lv_istore_n (lv' := [(3, .int (0 : Int32)), (0, .ref x0), (1, .int x1), (2, .int x2)]) X.1 X.2.1 dX6_sum_125 rfl hl (by decide) rfl (fun ls hl => ?_)
          exact wX6_sum_126 X  hp_n Y (lv_sub hl [1, 3, 0] rfl) hF
        · have hF := hp_ifn (c14) hF
          refine lv_aload_n X.1 X.2.1 dX6_sum_68 rfl (lv_at hl 0 rfl) ?_
          refine lv_aload_n X.1 X.2.1 dX6_sum_69 rfl (lv_at hl 0 rfl) ?_
          obtain ⟨v33, e34, hF⟩ := hp_b hF
          refine hp_getr X Y (C := RX6) (T := TX6) (N := 14) (ci := 6) (k := 5) rfl inX6_sum_X6 (by decide) lkX6_sum_f22 e34 dX6_sum_70 ?_
          refine lv_aload_n X.1 X.2.1 dX6_sum_73 rfl (lv_at hl 0 rfl) ?_
          obtain ⟨v35, e36, hF⟩ := hp_b hF
          refine hp_geti X Y (C := RX6) (T := TX6) (N := 14) (ci := 6) (k := 8) rfl inX6_sum_X6 (by decide) lkX6_sum_f34 e36 dX6_sum_74 ?_
          refine lv_aload_n X.1 X.2.1 dX6_sum_77 rfl (lv_at hl 0 rfl) ?_
          obtain ⟨v37, e38, hF⟩ := hp_b hF
          refine hp_getr X Y (C := RX6) (T := TX6) (N := 14) (ci := 6) (k := 6) rfl inX6_sum_X6 (by decide) lkX6_sum_f25 e38 dX6_sum_78 ?_
          refine lv_aload_n X.1 X.2.1 dX6_sum_81 rfl (lv_at hl 0 rfl) ?_
          obtain ⟨v39, e40, hF⟩ := hp_b hF
          refine hp_geti X Y (C := RX6) (T := TX6) (N := 14) (ci := 6) (k := 9) rfl inX6_sum_X6 (by decide) lkX6_sum_f55 e40 dX6_sum_82 ?_
          obtain ⟨⟨v43, h42⟩, e41, hF⟩ := hp_b hF
          refine hp_ci Y (hp_runS X Y (As := [.ref v33, .int v35, .ref v37, .int v39]) (n := 4) (mX6_taken l G e41) gX6_sum_X6_taken rfl rfl rfl ndX6_taken ⟨Nat.le_of_ble_eq_true rfl, Nat.le_of_ble_eq_true rfl⟩ rfl hl.1 rfl (Nat.le_of_ble_eq_true rfl) dX6_sum_85 ⟨Nat.zero_le _, Nat.zero_le _⟩) (fun H locs Y => ?_)
          obtain ⟨h45, e46, hF⟩ := hp_b hF
          refine hp_put X Y (C := RX6) (T := TX6) (N := 14) (ci := 6) (k := 8) (ty0 := tyX6) rfl inX6_sum_X6 tyX6_ok nmX6 (by decide) lkX6_sum_f34 rfl rfl rfl e46 dX6_sum_88 (fun H locs Y => ?_)
          refine lv_iload_n X.1 X.2.1 dX6_sum_91 rfl (lv_at hl 1 rfl) ?_
          cases hF
          exact hp_ri X Y rfl rfl dX6_sum_92
      · have hF := hp_ifp (c3) hF
        exact wX6_sum_13 X  Y (lv_sub hl [0, 1, 2] rfl) hF

/-! WholeNumbersModel.multiply -/
def rmX6_multiply : Room := { frames := 1, cells := 0, slots := 0, locals := 22 }
def bX6_multiply_42 (k30 : Int32 → hp_H → Option hp_H) (x0 : Nat) (x1 : Int32) : Nat → Int32 → Int32 → hp_H → Option hp_H
  | 0, _, _, _ => none
  | n + 1, x2, x3, h =>
  (hp_gi h x0 6 9).bind fun v1 =>
  if v1 ≤ x3 then (
    (hp_gr h x0 6 7).bind fun v4 =>
    (hp_gi h x0 6 9).bind fun v6 =>
    (hp_ai h 0 v4 (x1 + v6)).bind fun v8 =>
    (hp_si h 0 v4 (x1 + v6) (v8 + x2)).bind fun h10 =>
    (some (x1 + (1 : Int32))).bind fun v12 =>
    k30 v12 h10)
  else (
    (hp_gr h x0 6 7).bind fun v14 =>
    (hp_ai h 0 v14 (x1 + x3)).bind fun v16 =>
    (hp_gr h x0 6 5).bind fun v18 =>
    (hp_ai h 0 v18 x1).bind fun v20 =>
    (hp_gr h x0 6 6).bind fun v22 =>
    (hp_ai h 0 v22 x3).bind fun v24 =>
    (some ((v16 + (v20 * v24)) + x2)).bind fun v26 =>
    (hp_gr h x0 6 7).bind fun v28 =>
    (hp_si h 0 v28 (x1 + x3) (hp_irem v26 (10000 : Int32))).bind fun h30 =>
    (some (v26 / (10000 : Int32))).bind fun v32 =>
    (some (x3 + (1 : Int32))).bind fun v34 =>
    bX6_multiply_42 k30 x0 x1 n v32 v34 h30)
def bX6_multiply_30  (x0 : Nat) : Nat → Int32 → hp_H → Option hp_H
  | 0, _, _ => none
  | n + 1, x1, h =>
  (hp_gi h x0 6 8).bind fun v1 =>
  if v1 ≤ x1 then (
    (hp_gr h x0 6 7).bind fun v4 =>
    (hp_gi h x0 6 8).bind fun v6 =>
    (hp_gi h x0 6 9).bind fun v8 =>
    (fX6_shortened v4 (v6 + v8) h).bind fun v11 =>
    (hp_pv h x0 6 10 (.int v11)).bind fun h12 =>
    some h12)
  else (
    bX6_multiply_42 (bX6_multiply_30 x0 n) x0 x1 hp_n (0 : Int32) (0 : Int32) h)
def bX6_multiply_2  (x0 : Nat) : Nat → Int32 → hp_H → Option hp_H
  | 0, _, _ => none
  | n + 1, x1, h =>
  (hp_gi h x0 6 8).bind fun v1 =>
  (hp_gi h x0 6 9).bind fun v3 =>
  if (v1 + v3) ≤ x1 then (
    bX6_multiply_30 x0 hp_n (0 : Int32) h)
  else (
    (hp_gr h x0 6 7).bind fun v6 =>
    (hp_si h 0 v6 x1 (0 : Int32)).bind fun h8 =>
    (some (x1 + (1 : Int32))).bind fun v10 =>
    bX6_multiply_2 x0 n v10 h8)
def fX6_multiply (x0 : Nat) (h : hp_H) : Option hp_H :=
  if hp_o h x0 6 = true then
  bX6_multiply_2 x0 hp_n (0 : Int32) h
  else none
theorem inX6_multiply_X6 : ∀ w ∈ wsX60, w ∈ wsX6_multiply := by decide +kernel
theorem lkX6_multiply_f55 : Cond.fieldLink RX6 55 (TX6 9).1 (TX6 9).2.1 (TX6 9).2.2.1 ∈ wsX6_multiply := by decide +kernel
theorem lkX6_multiply_f28 : Cond.fieldLink RX6 28 (TX6 7).1 (TX6 7).2.1 (TX6 7).2.2.1 ∈ wsX6_multiply := by decide +kernel
theorem lkX6_multiply_f22 : Cond.fieldLink RX6 22 (TX6 5).1 (TX6 5).2.1 (TX6 5).2.2.1 ∈ wsX6_multiply := by decide +kernel
theorem lkX6_multiply_f25 : Cond.fieldLink RX6 25 (TX6 6).1 (TX6 6).2.1 (TX6 6).2.2.1 ∈ wsX6_multiply := by decide +kernel
theorem lkX6_multiply_f34 : Cond.fieldLink RX6 34 (TX6 8).1 (TX6 8).2.1 (TX6 8).2.2.1 ∈ wsX6_multiply := by decide +kernel
theorem lkX6_multiply_f89 : Cond.fieldLink RX6 89 (TX6 10).1 (TX6 10).2.1 (TX6 10).2.2.1 ∈ wsX6_multiply := by decide +kernel
theorem ndX6_multiply : yX6_multiply.cls ≠ "java/lang/invoke/MethodHandle" ∧ yX6_multiply.cls ≠ "java/lang/invoke/VarHandle" ∧ (parseMethodDescriptor yX6_multiply.desc).map (fun d => d.parameters.length) = some 0 := by decide +kernel
set_option maxRecDepth 100000 in
set_option maxHeartbeats 4000000 in
theorem wX6_multiply_42 {p : Program} {l : Launch} {e : Env} {s : State} {m : MethodId} {args : Array Value} {below : List Frame} {meth : Method} {c : Code} {G : hp_G} {h0 h' : hp_H}  (X : hp_X p s m args meth c cX6_multiply 5 RX6 wsX6_multiply none G) {k30 : Int32 → hp_H → Option hp_H} {x0 : Nat} {x1 : Int32}  (hk30 : ∀ (y1 : Int32) (h : hp_H) (H : Heap) (locs : List Loc) (ls : Array Slot), hp_Y G h h0 s H locs → lv_has ls 5 [(0, .ref x0), (1, .int y1)] → k30 y1 h = some h' → W p l e rmX6_multiply s m args below meth c H locs 0 0 (MQ below (va_Qv (fun u => u = h') (hp_B G h0) (hp_A h0)) args s 0 0 (hp_A h0)) (F0 m 30 ls [])) : ∀ (n : Nat) {x2 : Int32} {x3 : Int32} {h : hp_H} {H : Heap} {locs : List Loc} {ls : Array Slot} (Y : hp_Y G h h0 s H locs) (hl : lv_has ls 5 [(0, .ref x0), (1, .int x1), (2, .int x2), (3, .int x3)]) (hF : bX6_multiply_42 k30 x0 x1 n x2 x3 h = some h'), W p l e rmX6_multiply s m args below meth c H locs 0 0 (MQ below (va_Qv (fun u => u = h') (hp_B G h0) (hp_A h0)) args s 0 0 (hp_A h0)) (F0 m 42 ls []) := by
  intro n
  induction n with
  | zero =>
    intro x2 x3 h H locs ls Y hl hF
    exact absurd (show none = some _ from hF) (by simp)
  | succ n ih =>
    intro x2 x3 h H locs ls Y hl hF
    rw [bX6_multiply_42] at hF
    refine lv_iload_n X.1 X.2.1 dX6_multiply_42 rfl (lv_at hl 3 rfl) ?_
    refine lv_aload_n X.1 X.2.1 dX6_multiply_43 rfl (lv_at hl 0 rfl) ?_
    obtain ⟨v1, e2, hF⟩ := hp_b hF
    refine hp_geti X Y (C := RX6) (T := TX6) (N := 14) (ci := 6) (k := 9) rfl inX6_multiply_X6 (by decide) lkX6_multiply_f55 e2 dX6_multiply_44 ?_
    refine lv_icmp_ge (tgt := 103) X.1 X.2.1 dX6_multiply_47 (by decide) (fun c3 => ?_) (fun c3 => ?_)
    · have hF := hp_ifp (c3) hF
      refine lv_aload_n X.1 X.2.1 dX6_multiply_103 rfl (lv_at hl 0 rfl) ?_
      obtain ⟨v4, e5, hF⟩ := hp_b hF
      refine hp_getr X Y (C := RX6) (T := TX6) (N := 14) (ci := 6) (k := 7) rfl inX6_multiply_X6 (by decide) lkX6_multiply_f28 e5 dX6_multiply_104 ?_
      refine lv_iload_n X.1 X.2.1 dX6_multiply_107 rfl (lv_at hl 1 rfl) ?_
      refine lv_aload_n X.1 X.2.1 dX6_multiply_108 rfl (lv_at hl 0 rfl) ?_
      obtain ⟨v6, e7, hF⟩ := hp_b hF
      refine hp_geti X Y (C := RX6) (T := TX6) (N := 14) (ci := 6) (k := 9) rfl inX6_multiply_X6 (by decide) lkX6_multiply_f55 e7 dX6_multiply_109 ?_
      refine lv_iadd X.1 X.2.1 dX6_multiply_112 ?_
      refine lv_dup2_11 X.1 X.2.1 dX6_multiply_113 rfl rfl ?_
      obtain ⟨v8, e9, hF⟩ := hp_b hF
      refine hp_iald X Y e9 dX6_multiply_114 ?_
      refine lv_iload_n X.1 X.2.1 dX6_multiply_115 rfl (lv_at hl 2 rfl) ?_
      refine lv_iadd X.1 X.2.1 dX6_multiply_116 ?_
      obtain ⟨h10, e11, hF⟩ := hp_b hF
      refine hp_iast X Y e11 dX6_multiply_117 (fun H locs Y => ?_)
      obtain ⟨v12, e13, hF⟩ := hp_b hF
      refine lv_iinc (v := v12) (lv' := [(1, .int v12), (0, .ref x0), (2, .int x2), (3, .int x3)]) X.1 X.2.1 dX6_multiply_118 hl (k := 1) rfl (Option.some.inj e13) (by decide) rfl (fun ls hl => ?_)
      refine lv_goto (tgt := 30) X.1 X.2.1 dX6_multiply_121 (by decide) ?_
      exact hk30 _ _  _ _ _ Y (lv_sub hl [1, 0] rfl) hF
    · have hF := hp_ifn (c3) hF
      refine lv_aload_n X.1 X.2.1 dX6_multiply_50 rfl (lv_at hl 0 rfl) ?_
      obtain ⟨v14, e15, hF⟩ := hp_b hF
      refine hp_getr X Y (C := RX6) (T := TX6) (N := 14) (ci := 6) (k := 7) rfl inX6_multiply_X6 (by decide) lkX6_multiply_f28 e15 dX6_multiply_51 ?_
      refine lv_iload_n X.1 X.2.1 dX6_multiply_54 rfl (lv_at hl 1 rfl) ?_
      refine lv_iload_n X.1 X.2.1 dX6_multiply_55 rfl (lv_at hl 3 rfl) ?_
      refine lv_iadd X.1 X.2.1 dX6_multiply_56 ?_
      obtain ⟨v16, e17, hF⟩ := hp_b hF
      refine hp_iald X Y e17 dX6_multiply_57 ?_
      refine lv_aload_n X.1 X.2.1 dX6_multiply_58 rfl (lv_at hl 0 rfl) ?_
      obtain ⟨v18, e19, hF⟩ := hp_b hF
      refine hp_getr X Y (C := RX6) (T := TX6) (N := 14) (ci := 6) (k := 5) rfl inX6_multiply_X6 (by decide) lkX6_multiply_f22 e19 dX6_multiply_59 ?_
      refine lv_iload_n X.1 X.2.1 dX6_multiply_62 rfl (lv_at hl 1 rfl) ?_
      obtain ⟨v20, e21, hF⟩ := hp_b hF
      refine hp_iald X Y e21 dX6_multiply_63 ?_
      refine lv_aload_n X.1 X.2.1 dX6_multiply_64 rfl (lv_at hl 0 rfl) ?_
      obtain ⟨v22, e23, hF⟩ := hp_b hF
      refine hp_getr X Y (C := RX6) (T := TX6) (N := 14) (ci := 6) (k := 6) rfl inX6_multiply_X6 (by decide) lkX6_multiply_f25 e23 dX6_multiply_65 ?_
      refine lv_iload_n X.1 X.2.1 dX6_multiply_68 rfl (lv_at hl 3 rfl) ?_
      obtain ⟨v24, e25, hF⟩ := hp_b hF
      refine hp_iald X Y e25 dX6_multiply_69 ?_
      refine lv_imul X.1 X.2.1 dX6_multiply_70 ?_
      refine lv_iadd X.1 X.2.1 dX6_multiply_71 ?_
      refine lv_iload_n X.1 X.2.1 dX6_multiply_72 rfl (lv_at hl 2 rfl) ?_
      refine lv_iadd X.1 X.2.1 dX6_multiply_73 ?_
      obtain ⟨v26, e27, hF⟩ := hp_b hF
      refine hp_ti (Option.some.inj e27) ?_
      refine lv_istore (lv' := [(4, .int v26), (0, .ref x0), (1, .int x1), (2, .int x2), (3, .int x3)]) X.1 X.2.1 dX6_multiply_74 hl (by decide) rfl (fun ls hl => ?_)
      refine lv_aload_n X.1 X.2.1 dX6_multiply_76 rfl (lv_at hl 1 rfl) ?_
      obtain ⟨v28, e29, hF⟩ := hp_b hF
      refine hp_getr X Y (C := RX6) (T := TX6) (N := 14) (ci := 6) (k := 7) rfl inX6_multiply_X6 (by decide) lkX6_multiply_f28 e29 dX6_multiply_77 ?_
      refine lv_iload_n X.1 X.2.1 dX6_multiply_80 rfl (lv_at hl 2 rfl) ?_
      refine lv_iload_n X.1 X.2.1 dX6_multiply_81 rfl (lv_at hl 4 rfl) ?_
      refine lv_iadd X.1 X.2.1 dX6_multiply_82 ?_
      refine lv_iload X.1 X.2.1 dX6_multiply_83 (lv_at hl 0 rfl) ?_
      refine lv_sipush (v := 10000) X.1 X.2.1 dX6_multiply_85 (by decide) ?_
      refine lv_irem X.1 X.2.1 dX6_multiply_88 (by decide) ?_
      obtain ⟨h30, e31, hF⟩ := hp_b hF
      refine hp_iast X Y e31 dX6_multiply_89 (fun H locs Y => ?_)
      refine lv_iload X.1 X.2.1 dX6_multiply_90 (lv_at hl 0 rfl) ?_
      refine lv_sipush (v := 10000) X.1 X.2.1 dX6_multiply_92 (by decide) ?_
      refine lv_idiv X.1 X.2.1 dX6_multiply_95 (by decide) ?_
      obtain ⟨v32, e33, hF⟩ := hp_b hF
      refine hp_ti (Option.some.inj e33) ?_
      refine lv_istore_n (lv' := [(2, .int v32), (4, .int v26), (0, .ref x0), (1, .int x1), (3, .int x3)]) X.1 X.2.1 dX6_multiply_96 rfl hl (by decide) rfl (fun ls hl => ?_)
      obtain ⟨v34, e35, hF⟩ := hp_b hF
      refine lv_iinc (v := v34) (lv' := [(3, .int v34), (2, .int v32), (4, .int v26), (0, .ref x0), (1, .int x1)]) X.1 X.2.1 dX6_multiply_97 hl (k := 4) rfl (Option.some.inj e35) (by decide) rfl (fun ls hl => ?_)
      refine lv_goto (tgt := 42) X.1 X.2.1 dX6_multiply_100 (by decide) ?_
      exact ih Y (lv_sub hl [3, 4, 1, 0] rfl) hF
set_option maxRecDepth 100000 in
set_option maxHeartbeats 4000000 in
theorem wX6_multiply_30 {p : Program} {l : Launch} {e : Env} {s : State} {m : MethodId} {args : Array Value} {below : List Frame} {meth : Method} {c : Code} {G : hp_G} {h0 h' : hp_H}  (X : hp_X p s m args meth c cX6_multiply 5 RX6 wsX6_multiply none G)  {x0 : Nat}   : ∀ (n : Nat) {x1 : Int32} {h : hp_H} {H : Heap} {locs : List Loc} {ls : Array Slot} (Y : hp_Y G h h0 s H locs) (hl : lv_has ls 5 [(0, .ref x0), (1, .int x1)]) (hF : bX6_multiply_30 x0 n x1 h = some h'), W p l e rmX6_multiply s m args below meth c H locs 0 0 (MQ below (va_Qv (fun u => u = h') (hp_B G h0) (hp_A h0)) args s 0 0 (hp_A h0)) (F0 m 30 ls []) := by
  intro n
  induction n with
  | zero =>
    intro x1 h H locs ls Y hl hF
    exact absurd (show none = some _ from hF) (by simp)
  | succ n ih =>
    intro x1 h H locs ls Y hl hF
    rw [bX6_multiply_30] at hF
    refine lv_iload_n X.1 X.2.1 dX6_multiply_30 rfl (lv_at hl 1 rfl) ?_
    refine lv_aload_n X.1 X.2.1 dX6_multiply_31 rfl (lv_at hl 0 rfl) ?_
    obtain ⟨v1, e2, hF⟩ := hp_b hF
    refine hp_geti X Y (C := RX6) (T := TX6) (N := 14) (ci := 6) (k := 8) rfl inX6_multiply_X6 (by decide) lkX6_multiply_f34 e2 dX6_multiply_32 ?_
    refine lv_icmp_ge (tgt := 124) X.1 X.2.1 dX6_multiply_35 (by decide) (fun c3 => ?_) (fun c3 => ?_)
    · have hF := hp_ifp (c3) hF
      refine lv_aload_n X.1 X.2.1 dX6_multiply_124 rfl (lv_at hl 0 rfl) ?_
      refine lv_aload_n X.1 X.2.1 dX6_multiply_125 rfl (lv_at hl 0 rfl) ?_
      obtain ⟨v4, e5, hF⟩ := hp_b hF
      refine hp_getr X Y (C := RX6) (T := TX6) (N := 14) (ci := 6) (k := 7) rfl inX6_multiply_X6 (by decide) lkX6_multiply_f28 e5 dX6_multiply_126 ?_
      refine lv_aload_n X.1 X.2.1 dX6_multiply_129 rfl (lv_at hl 0 rfl) ?_
      obtain ⟨v6, e7, hF⟩ := hp_b hF
      refine hp_geti X Y (C := RX6) (T := TX6) (N := 14) (ci := 6) (k := 8) rfl inX6_multiply_X6 (by decide) lkX6_multiply_f34 e7 dX6_multiply_130 ?_
      refine lv_aload_n X.1 X.2.1 dX6_multiply_133 rfl (lv_at hl 0 rfl) ?_
      obtain ⟨v8, e9, hF⟩ := hp_b hF
      refine hp_geti X Y (C := RX6) (T := TX6) (N := 14) (ci := 6) (k := 9) rfl inX6_multiply_X6 (by decide) lkX6_multiply_f55 e9 dX6_multiply_134 ?_
      refine lv_iadd X.1 X.2.1 dX6_multiply_137 ?_
      obtain ⟨v11, e10, hF⟩ := hp_b hF
      refine hp_ci Y (hp_runS X Y (As := [.ref v4, .int (v6 + v8)]) (n := 2) (mX6_shortened l G e10) gX6_multiply_X6_shortened rfl rfl rfl ndX6_shortened ⟨Nat.le_of_ble_eq_true rfl, Nat.le_of_ble_eq_true rfl⟩ rfl hl.1 rfl (Nat.le_of_ble_eq_true rfl) dX6_multiply_138 ⟨Nat.zero_le _, Nat.zero_le _⟩) (fun H locs Y => ?_)
      obtain ⟨h12, e13, hF⟩ := hp_b hF
      refine hp_put X Y (C := RX6) (T := TX6) (N := 14) (ci := 6) (k := 10) (ty0 := tyX6) rfl inX6_multiply_X6 tyX6_ok nmX6 (by decide) lkX6_multiply_f89 rfl rfl rfl e13 dX6_multiply_141 (fun H locs Y => ?_)
      cases hF
      exact hp_rv X Y rfl dX6_multiply_144
    · have hF := hp_ifn (c3) hF
      refine lv_iconst (v := 0) X.1 X.2.1 dX6_multiply_38 (by decide) ?_
      refine lv_istore_n (lv' := [(2, .int (0 : Int32)), (0, .ref x0), (1, .int x1)]) X.1 X.2.1 dX6_multiply_39 rfl hl (by decide) rfl (fun ls hl => ?_)
      refine lv_iconst (v := 0) X.1 X.2.1 dX6_multiply_40 (by decide) ?_
      refine lv_istore_n (lv' := [(3, .int (0 : Int32)), (2, .int (0 : Int32)), (0, .ref x0), (1, .int x1)]) X.1 X.2.1 dX6_multiply_41 rfl hl (by decide) rfl (fun ls hl => ?_)
      exact wX6_multiply_42 X (fun _ _ _ _ _ Y hl hF => ih Y hl hF) hp_n Y (lv_sub hl [2, 3, 1, 0] rfl) hF
set_option maxRecDepth 100000 in
set_option maxHeartbeats 4000000 in
theorem wX6_multiply_2 {p : Program} {l : Launch} {e : Env} {s : State} {m : MethodId} {args : Array Value} {below : List Frame} {meth : Method} {c : Code} {G : hp_G} {h0 h' : hp_H}  (X : hp_X p s m args meth c cX6_multiply 5 RX6 wsX6_multiply none G)  {x0 : Nat}   : ∀ (n : Nat) {x1 : Int32} {h : hp_H} {H : Heap} {locs : List Loc} {ls : Array Slot} (Y : hp_Y G h h0 s H locs) (hl : lv_has ls 5 [(0, .ref x0), (1, .int x1)]) (hF : bX6_multiply_2 x0 n x1 h = some h'), W p l e rmX6_multiply s m args below meth c H locs 0 0 (MQ below (va_Qv (fun u => u = h') (hp_B G h0) (hp_A h0)) args s 0 0 (hp_A h0)) (F0 m 2 ls []) := by
  intro n
  induction n with
  | zero =>
    intro x1 h H locs ls Y hl hF
    exact absurd (show none = some _ from hF) (by simp)
  | succ n ih =>
    intro x1 h H locs ls Y hl hF
    rw [bX6_multiply_2] at hF
    refine lv_iload_n X.1 X.2.1 dX6_multiply_2 rfl (lv_at hl 1 rfl) ?_
    refine lv_aload_n X.1 X.2.1 dX6_multiply_3 rfl (lv_at hl 0 rfl) ?_
    obtain ⟨v1, e2, hF⟩ := hp_b hF
    refine hp_geti X Y (C := RX6) (T := TX6) (N := 14) (ci := 6) (k := 8) rfl inX6_multiply_X6 (by decide) lkX6_multiply_f34 e2 dX6_multiply_4 ?_
    refine lv_aload_n X.1 X.2.1 dX6_multiply_7 rfl (lv_at hl 0 rfl) ?_
    obtain ⟨v3, e4, hF⟩ := hp_b hF
    refine hp_geti X Y (C := RX6) (T := TX6) (N := 14) (ci := 6) (k := 9) rfl inX6_multiply_X6 (by decide) lkX6_multiply_f55 e4 dX6_multiply_8 ?_
    refine lv_iadd X.1 X.2.1 dX6_multiply_11 ?_
    refine lv_icmp_ge (tgt := 28) X.1 X.2.1 dX6_multiply_12 (by decide) (fun c5 => ?_) (fun c5 => ?_)
    · have hF := hp_ifp (c5) hF
      refine lv_iconst (v := 0) X.1 X.2.1 dX6_multiply_28 (by decide) ?_
      refine lv_istore_n (lv' := [(1, .int (0 : Int32)), (0, .ref x0)]) X.1 X.2.1 dX6_multiply_29 rfl hl (by decide) rfl (fun ls hl => ?_)
      exact wX6_multiply_30 X  hp_n Y (lv_sub hl [1, 0] rfl) hF
    · have hF := hp_ifn (c5) hF
      refine lv_aload_n X.1 X.2.1 dX6_multiply_15 rfl (lv_at hl 0 rfl) ?_
      obtain ⟨v6, e7, hF⟩ := hp_b hF
      refine hp_getr X Y (C := RX6) (T := TX6) (N := 14) (ci := 6) (k := 7) rfl inX6_multiply_X6 (by decide) lkX6_multiply_f28 e7 dX6_multiply_16 ?_
      refine lv_iload_n X.1 X.2.1 dX6_multiply_19 rfl (lv_at hl 1 rfl) ?_
      refine lv_iconst (v := 0) X.1 X.2.1 dX6_multiply_20 (by decide) ?_
      obtain ⟨h8, e9, hF⟩ := hp_b hF
      refine hp_iast X Y e9 dX6_multiply_21 (fun H locs Y => ?_)
      obtain ⟨v10, e11, hF⟩ := hp_b hF
      refine lv_iinc (v := v10) (lv' := [(1, .int v10), (0, .ref x0)]) X.1 X.2.1 dX6_multiply_22 hl (k := 1) rfl (Option.some.inj e11) (by decide) rfl (fun ls hl => ?_)
      refine lv_goto (tgt := 2) X.1 X.2.1 dX6_multiply_25 (by decide) ?_
      exact ih Y (lv_sub hl [1, 0] rfl) hF
theorem oX6_multiply {x0 : Nat} {h h' : hp_H}  (hF : fX6_multiply x0 h = some h') : hp_o h x0 6 = true := by
  unfold fX6_multiply at hF
  exact (hp_ift hF).1
set_option maxRecDepth 100000 in
set_option maxHeartbeats 4000000 in
theorem mX6_multiply (l : Launch) (G : hp_G) {x0 : Nat} {h h' : hp_H}  (hF : fX6_multiply x0 h = some h') : Met l yX6_multiply wsX6_multiply rmX6_multiply (va_Pc [.ref x0] (hp_S G h)) (va_Qv (fun u => u = h') (hp_B G h) (hp_A h)) 0 0 (hp_A h) := by
  refine hp_met (cc := cX6_multiply) (nL := 5) (ret := none) (by decide) rfl ?_
  intro p e s m below meth c X Y
  have hl := lv_entry ([.ref x0]) (n := 5) (Nat.le_of_ble_eq_true rfl)
  rw [lg_entry_eq]
  generalize (lg_sl ([.ref x0]) ++ List.replicate (5 - (lg_sl ([.ref x0])).length) Slot.unset).toArray = ls at hl ⊢
  have hl : lv_has ls 5 [(0, .ref x0)] := hl
  unfold fX6_multiply at hF
  obtain ⟨ho, hF⟩ := hp_ift hF
  refine lv_iconst (v := 0) X.1 X.2.1 dX6_multiply_0 (by decide) ?_
  refine lv_istore_n (lv' := [(1, .int (0 : Int32)), (0, .ref x0)]) X.1 X.2.1 dX6_multiply_1 rfl hl (by decide) rfl (fun ls hl => ?_)
  exact wX6_multiply_2 X  hp_n Y (lv_sub hl [1, 0] rfl) hF
