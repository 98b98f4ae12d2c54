/-! THROWING: divide by 0, the root of a number below 0 (laid by wip/throw.py) -/
def nmAE : String := "java/lang/ArithmeticException"
def nmIE : String := "java/lang/IllegalArgumentException"
def dc1 : Cond := .declares ⟨"java/lang/RuntimeException", "<init>", "(Ljava/lang/String;)V"⟩
def dc2 : Cond := .declares ⟨"java/lang/Exception", "<init>", "(Ljava/lang/String;)V"⟩
def dc3 : Cond := .declares ⟨"java/lang/Throwable", "<init>", "(Ljava/lang/String;)V"⟩
/-- what a throw needs of the world; the cells of A aren't statics' -/
def hp_TW (A : Nat → Prop) (U : State) : Prop := vx_Zq Bundle.tN "UNASSIGNED_STACK" Bundle.steD A U U.heap ∧ vx_Zq Bundle.tN "SUPPRESSED_SENTINEL" Bundle.listD A U U.heap ∧ (∃ a, vk_R RX5 84 "the divisor is 0" a U) ∧ (∃ a, vk_R RX5 117 "no root of a number below 0" a U) ∧ va_Nw dc1 U ∧ va_Nw dc2 U ∧ va_Nw dc3 U ∧ va_Nw (.castable nmAE nmAE) U ∧ va_Nw (.castable nmIE nmIE) U
theorem hp_TW.go {A : Nat → Prop} {s U : State} {H : Heap} {locs : List Loc} (T : hp_TW A s) (hS : va_S A s.heap H locs) (hU : U.heap = H) (hW : s.WarmedH U.vm) : hp_TW A U := by
  obtain ⟨t1, t2, ⟨a3, t3⟩, ⟨a4, t4⟩, t5, t6, t7, t8, t9⟩ := T
  exact ⟨by rw [hU]; exact vx_Zq.moved hW.alike (t1.kept hS.2.1), by rw [hU]; exact vx_Zq.moved hW.alike (t2.kept hS.2.1), ⟨a3, vk_R.warm hW t3⟩, ⟨a4, vk_R.warm hW t4⟩, va_Nw.warmD hW t5, va_Nw.warmD hW t6, va_Nw.warmD hW t7, va_Nw.warmC hW t8, va_Nw.warmC hW t9⟩
theorem hp_TW.narrow {A B : Nat → Prop} {U : State} (T : hp_TW A U) (hAB : ∀ q, B q → A q) : hp_TW B U := ⟨T.1.narrow hAB, T.2.1.narrow hAB, T.2.2⟩
theorem hp_TW.calling {A : Nat → Prop} {U : State} {g : JFrame} {mk : MethodId} {a : Array Value} (T : hp_TW A U) : hp_TW A (U.calling g mk a) := T.go (U := U.calling g mk a) (locs := []) va_S.rf rfl (State.WarmedH.refl U)
theorem ht_met {l : Launch} {cc : ByteArray} {nL : Nat} {ret : Option FieldType} {G : hp_G} {h : hp_H} {y : MethodName} {ws ws' : List Cond} {rm : Room} {av : List Value} {Qc : Array Value → State → Outcome → State → Prop} {XC : String → State → State → Prop} {mc ms : Nat} {N : State → Prop} (hy : plainName y.cls = true) (hw : ws = Cond.code y cc nL ret :: ws')
    (body : ∀ {p : Program} {e : Env} {s : State} {m : MethodId} {below : List Frame} {meth : Method} {c : Code}, hp_X p s m av.toArray meth c cc nL y.cls ws ret G → hp_Y G h h s s.heap [] → N s → (∀ x ∈ c.exceptionTable.toList, False) → W p l e rm s m av.toArray below meth c s.heap [] 0 0 (vx_MQ below Qc XC av.toArray s mc ms (hp_A h)) (entryFrame m av.toArray nL)) :
    vx_Met l y ws rm (va_Pc av (fun U => hp_S G h U ∧ N U)) Qc XC mc ms (hp_A h) := by
  refine vx_ofW (cc := cc) (maxL := nL) (ret := ret) hy hw ?_
  intro p e s m args below meth c s₁ B hml ht hv
  obtain ⟨rfl, ⟨hP, hK⟩, hN⟩ := hv
  exact body ⟨B.exec, B.bytes, hml, findClass_of_methodNamed B.named, atoms_spec (ws := ws) B.pre, hK, B.returns, B.notSynchronized⟩ ⟨hP, hp_le.rf, va_S.rf⟩ hN ht
theorem ht_words {args : Array Value} {s : State} {A : Nat → Prop} (T : hp_TW A s) : ∀ w ∈ [dc1, dc2, dc3, .castable nmAE nmAE, .castable nmIE nmIE], w.before args s = true :=
  vx_c (va_Nw.use rfl T.2.2.2.2.1) (vx_c (va_Nw.use rfl T.2.2.2.2.2.1) (vx_c (va_Nw.use rfl T.2.2.2.2.2.2.1) (vx_c (va_Nw.use rfl T.2.2.2.2.2.2.2.1) (vx_c (va_Nw.use rfl T.2.2.2.2.2.2.2.2) vx_n))))
/-- what is left behind a throw -/
theorem ht_X {G : hp_G} {h : hp_H} {s : State} {H : Heap} {locs : List Loc} {E : String} (hK : hp_K G s) (Y : hp_Y G h h s H locs) {t : State} (hvm : s.vm.Alike t.vm) (h1 : H.size ≤ t.heap.size) (h2 : ∀ q : Nat, q < H.size → t.heap[q]? = H[q]?) : vx_X (fun u : hp_H => u = h) (fun E' u t => E' = E ∧ hp_B G h u t) (hp_A h) E s t :=
  ⟨h, rfl, ⟨rfl, fun a e he => (Y.1 a e he).kept (h2 a (Y.1 a e he).lt), va_K.moved hvm hK, hp_le.rf⟩, Nat.le_trans Y.2.2.1 h1, fun q hq hA => (h2 q (Nat.lt_of_lt_of_le hq Y.2.2.1)).trans (Y.2.2.2.1 q hq hA)⟩
def rtX5_divide : Room := { frames := 6, cells := 1, slots := 6, locals := 126 }
set_option maxHeartbeats 4000000 in
set_option maxRecDepth 100000 in
theorem tX5_divide (l : Launch) (hst : l.stackTraces = false) (G : hp_G) {h : hp_H} {z n : Nat} {R : Nat → Int} {T : Nat → Nat} (C : cs h z R T n) {x1 x2 x3 x4 x5 : Int32} (hD : sDivide R x1 x2 x3 x4 x5 = none) : vx_Met l yX5_divide wsX5_divide rtX5_divide (va_Pc [.ref z, .int x1, .int x2, .int x3, .int x4, .int x5] (fun U => hp_S G h U ∧ hp_TW (hp_A h) U)) (va_Qi (fun _ _ => False) (hp_B G h) (hp_A h)) (vx_X (fun u : hp_H => u = h) (fun E u t => E = nmAE ∧ hp_B G h u t) (hp_A h)) 1 6 (hp_A h) := by
  obtain ⟨k, m', i, j, hk, hm, hi, hj, e1, e2, e3, e4, r1, r2, r3, r4, hkm, h0⟩ : ∃ k m' i j, k < 8 ∧ m' < 8 ∧ i < 8 ∧ j < 8 ∧ x1 = nI k ∧ x2 = nI m' ∧ x3 = nI i ∧ x4 = nI j ∧ fX5_isRegister x1 = some 1 ∧ rg x2 = some m' ∧ rg x3 = some i ∧ rg x4 = some j ∧ k ≠ m' ∧ R j = 0 := by
    unfold sDivide at hD
    rcases rg_cases x1 with ⟨e1, f1⟩ | ⟨k, hk, g1, e1, f1⟩
    · rw [e1] at hD; cases hD
    rcases rg_cases x2 with ⟨e2, f2⟩ | ⟨m', hm, g2, e2, f2⟩
    · rw [e1, e2] at hD; cases hD
    rcases rg_cases x3 with ⟨e3, f3⟩ | ⟨i, hi, g3, e3, f3⟩
    · rw [e1, e2, e3] at hD; cases hD
    rcases rg_cases x4 with ⟨e4, f4⟩ | ⟨j, hj, g4, e4, f4⟩
    · rw [e1, e2, e3, e4] at hD; cases hD
    rw [e1, e2, e3, e4] at hD
    simp only [] at hD
    by_cases q1 : k = m'
    · rw [if_pos q1] at hD; cases hD
    · rw [if_neg q1] at hD
      by_cases q2 : R j = 0
      · exact ⟨k, m', i, j, hk, hm, hi, hj, g1, g2, g3, g4, f1, e2, e3, e4, q1, q2⟩
      · rw [if_neg q2] at hD; cases hD
  have Cj := C.2.1 j hj
  refine ht_met (cc := cX5_divide) (nL := 8) (ret := (some .int)) (by decide) rfl ?_
  intro p e s m below meth c X Y TW hout
  have hl := lv_entry ([.ref z, .int x1, .int x2, .int x3, .int x4, .int x5]) (n := 8) (Nat.le_of_ble_eq_true rfl)
  rw [lg_entry_eq]
  generalize (lg_sl ([.ref z, .int x1, .int x2, .int x3, .int x4, .int x5]) ++ List.replicate (8 - (lg_sl ([.ref z, .int x1, .int x2, .int x3, .int x4, .int x5])).length) Slot.unset).toArray = ls at hl ⊢
  have hl : lv_has ls 8 [(0, .ref z), (1, .int x1), (2, .int x2), (3, .int x3), (4, .int x4), (5, .int x5)] := hl
  refine lv_iload_n X.1 X.2.1 dX5_divide_0 rfl (lv_at hl 1 rfl) ?_
  refine hp_ci Y (hp_runS X Y (As := [.int x1]) (n := 1) (mX5_isRegister l G r1) gX5_divide_X5_isRegister rfl rfl rfl ndX5_isRegister ⟨Nat.le_of_ble_eq_true rfl, Nat.le_of_ble_eq_true rfl⟩ rfl hl.1 rfl (Nat.le_of_ble_eq_true rfl) dX5_divide_1 ⟨Nat.zero_le _, Nat.zero_le _⟩) (fun H locs Y => ?_)
  refine lv_if_eq (tgt := 22) X.1 X.2.1 dX5_divide_4 (by decide) (fun c3 => absurd c3 (by decide)) (fun c3 => ?_)
  refine lv_iload_n X.1 X.2.1 dX5_divide_7 rfl (lv_at hl 2 rfl) ?_
  refine lv_iload_n X.1 X.2.1 dX5_divide_8 rfl (lv_at hl 3 rfl) ?_
  refine lv_iload X.1 X.2.1 dX5_divide_9 (lv_at hl 4 rfl) ?_
  refine hp_ci Y (hp_runS X Y (As := [.int x2, .int x3, .int x4]) (n := 3) (mX5_areRegisters l G (are_ok r2 r3 r4)) gX5_divide_X5_areRegisters rfl rfl rfl ndX5_areRegisters ⟨Nat.le_of_ble_eq_true rfl, Nat.le_of_ble_eq_true rfl⟩ rfl hl.1 rfl (Nat.le_of_ble_eq_true rfl) dX5_divide_11 ⟨Nat.zero_le _, Nat.zero_le _⟩) (fun H locs Y => ?_)
  refine lv_if_eq (tgt := 22) X.1 X.2.1 dX5_divide_14 (by decide) (fun c6 => absurd c6 (by decide)) (fun c6 => ?_)
  refine lv_iload_n X.1 X.2.1 dX5_divide_17 rfl (lv_at hl 1 rfl) ?_
  refine lv_iload_n X.1 X.2.1 dX5_divide_18 rfl (lv_at hl 2 rfl) ?_
  refine lv_icmp_ne (tgt := 24) X.1 X.2.1 dX5_divide_19 (by decide) (fun c7 => ?_) (fun c7 => absurd c7 (fun q => hkm ((nI_ij (by omega) (by omega)).mp (by rw [← e1, ← e2]; exact q))))
  refine lv_aload_n X.1 X.2.1 dX5_divide_24 rfl (lv_at hl 0 rfl) ?_
  refine hp_getr X Y (C := RX5) (T := TX5) (N := 6) (ci := 5) (k := 0) rfl inX5_divide_X5 (by decide) lkX5_divide_f11 (cs_0 C) dX5_divide_25 ?_
  refine lv_iload_n X.1 X.2.1 dX5_divide_28 rfl (lv_at hl 3 rfl) ?_
  refine hp_aald X Y (v := z + 2 + 3 * i) (by rw [e3]; exact cs_r C hi) dX5_divide_29 ?_
  refine lv_astore (lv' := [(6, .ref (z + 2 + 3 * i)), (0, .ref z), (1, .int x1), (2, .int x2), (3, .int x3), (4, .int x4), (5, .int x5)]) X.1 X.2.1 dX5_divide_30 hl (by decide) rfl (fun ls hl => ?_)
  refine lv_aload_n X.1 X.2.1 dX5_divide_32 rfl (lv_at hl 1 rfl) ?_
  refine hp_getr X Y (C := RX5) (T := TX5) (N := 6) (ci := 5) (k := 0) rfl inX5_divide_X5 (by decide) lkX5_divide_f11 (cs_0 C) dX5_divide_33 ?_
  refine lv_iload X.1 X.2.1 dX5_divide_36 (lv_at hl 5 rfl) ?_
  refine hp_aald X Y (v := z + 2 + 3 * j) (by rw [e4]; exact cs_r C hj) dX5_divide_38 ?_
  refine lv_astore (lv' := [(7, .ref (z + 2 + 3 * j)), (6, .ref (z + 2 + 3 * i)), (0, .ref z), (1, .int x1), (2, .int x2), (3, .int x3), (4, .int x4), (5, .int x5)]) X.1 X.2.1 dX5_divide_39 hl (by decide) rfl (fun ls hl => ?_)
  refine lv_aload X.1 X.2.1 dX5_divide_41 (lv_at hl 0 rfl) ?_
  refine hp_getr X Y (C := RX4) (T := TX4) (N := 2) (ci := 4) (k := 0) rfl inX5_divide_X4 (by decide) lkX5_divide_f72 (wq_a (wz_q Cj.1)) dX5_divide_43 ?_
  have e18 : fX2_isZero (z + 3 + 3 * j) h = some 1 := by rw [isZero_v Cj.1.2, h0]; rfl
  refine hp_ci Y (hp_runV X Y (ci := 2) (As := []) (n := 0) (T := TX2) (N := 2) (mX2_isZero l G e18) rfl (oX2_isZero e18) gX5_divide_X2_isZero rfl rfl rfl ndX2_isZero ⟨Nat.le_of_ble_eq_true rfl, Nat.le_of_ble_eq_true rfl⟩ rfl hl.1 rfl (Nat.le_of_ble_eq_true rfl) dX5_divide_46 ⟨Nat.zero_le _, Nat.zero_le _⟩) (fun H locs Y => ?_)
  refine lv_if_eq (tgt := 62) X.1 X.2.1 dX5_divide_49 (by decide) (fun c20 => absurd c20 (by decide)) (fun c20 => ?_)
  obtain ⟨sa, hstr⟩ := TW.2.2.1
  refine vx_throwS (A := hp_A h) X.1 X.2.1 hst (own := RX5) (cls := nmAE) (text := "the divisor is 0") (names := ["java/lang/RuntimeException", "java/lang/Exception"]) (ik := 82) (is := 84) (ic := 86) X.2.2.2.1 (by decide +kernel) (by decide +kernel) (X.2.2.2.2.1 _ (by decide +kernel : Cond.classLink RX5 82 nmAE ∈ wsX5_divide)) (X.2.2.2.2.1 _ (by decide +kernel : Cond.initialized nmAE ∈ wsX5_divide)) hstr (vx_hat (fun w hw => X.2.2.2.2.1 w (List.mem_cons_of_mem _ (List.mem_append_right _ hw))) (show ∀ w ∈ (vx_atS RX5 86 nmAE ["java/lang/RuntimeException", "java/lang/Exception"]).filter (fun w => !goodWord w), w ∈ [dc1, dc2, dc3, .castable nmAE nmAE, .castable nmIE nmIE] by decide +kernel) (ht_words TW)) (by decide +kernel) TW.1 TW.2.1 Y.2.2 (by rw [X.2.2.1]; exact hl.1) dX5_divide_52 dX5_divide_55 dX5_divide_56 dX5_divide_58 dX5_divide_61 (fun x hx => (hout x hx).elim) (by decide) (by decide) (by decide) (by decide) X.2.2.2.2.2.2.2 (fun t hvm h1 h2 => ht_X X.2.2.2.2.2.1 Y hvm h1 h2) Y.2.2.2.2 (by decide) (by decide)
def rtX5_root : Room := { frames := 6, cells := 1, slots := 6, locals := 128 }
set_option maxHeartbeats 4000000 in
set_option maxRecDepth 100000 in
theorem tX5_root (l : Launch) (hst : l.stackTraces = false) (G : hp_G) {h : hp_H} {z n : Nat} {R : Nat → Int} {T : Nat → Nat} (C : cs h z R T n) {x1 x2 : Int32} (hD : sRoot R x1 x2 = none) : vx_Met l yX5_root wsX5_root rtX5_root (va_Pc [.ref z, .int x1, .int x2] (fun U => hp_S G h U ∧ hp_TW (hp_A h) U)) (va_Qi (fun _ _ => False) (hp_B G h) (hp_A h)) (vx_X (fun u : hp_H => u = h) (fun E u t => E = nmIE ∧ hp_B G h u t) (hp_A h)) 1 6 (hp_A h) := by
  obtain ⟨i, hi, e2, r1, r2, h0⟩ : ∃ i, i < 8 ∧ x2 = nI i ∧ fX5_isRegister x1 = some 1 ∧ fX5_isRegister x2 = some 1 ∧ R i < 0 := by
    unfold sRoot at hD
    rcases rg_cases x1 with ⟨e1, f1⟩ | ⟨k, hk, g1, e1, f1⟩
    · rw [e1] at hD; cases hD
    rcases rg_cases x2 with ⟨e2, f2⟩ | ⟨i, hi, g2, e2, f2⟩
    · rw [e1, e2] at hD; cases hD
    rw [e1, e2] at hD
    simp only [] at hD
    by_cases q2 : R i < 0
    · exact ⟨i, hi, g2, f1, f2, q2⟩
    · rw [if_neg q2] at hD; cases hD
  have Ci := C.2.1 i hi
  refine ht_met (cc := cX5_root) (nL := 3) (ret := (some .int)) (by decide) rfl ?_
  intro p e s m below meth c X Y TW hout
  have hl := lv_entry ([.ref z, .int x1, .int x2]) (n := 3) (Nat.le_of_ble_eq_true rfl)
  rw [lg_entry_eq]
  generalize (lg_sl ([.ref z, .int x1, .int x2]) ++ List.replicate (3 - (lg_sl ([.ref z, .int x1, .int x2])).length) Slot.unset).toArray = ls at hl ⊢
  have hl : lv_has ls 3 [(0, .ref z), (1, .int x1), (2, .int x2)] := hl
  refine lv_iload_n X.1 X.2.1 dX5_root_0 rfl (lv_at hl 1 rfl) ?_
  refine hp_ci Y (hp_runS X Y (As := [.int x1]) (n := 1) (mX5_isRegister l G r1) gX5_root_X5_isRegister rfl rfl rfl ndX5_isRegister ⟨Nat.le_of_ble_eq_true rfl, Nat.le_of_ble_eq_true rfl⟩ rfl hl.1 rfl (Nat.le_of_ble_eq_true rfl) dX5_root_1 ⟨Nat.zero_le _, Nat.zero_le _⟩) (fun H locs Y => ?_)
  refine lv_if_eq (tgt := 14) X.1 X.2.1 dX5_root_4 (by decide) (fun c3 => absurd c3 (by decide)) (fun c3 => ?_)
  refine lv_iload_n X.1 X.2.1 dX5_root_7 rfl (lv_at hl 2 rfl) ?_
  refine hp_ci Y (hp_runS X Y (As := [.int x2]) (n := 1) (mX5_isRegister l G r2) gX5_root_X5_isRegister rfl rfl rfl ndX5_isRegister ⟨Nat.le_of_ble_eq_true rfl, Nat.le_of_ble_eq_true rfl⟩ rfl hl.1 rfl (Nat.le_of_ble_eq_true rfl) dX5_root_8 ⟨Nat.zero_le _, Nat.zero_le _⟩) (fun H locs Y => ?_)
  refine lv_if_ne (tgt := 16) X.1 X.2.1 dX5_root_11 (by decide) (fun c6 => ?_) (fun c6 => absurd c6 (by decide))
  refine lv_aload_n X.1 X.2.1 dX5_root_16 rfl (lv_at hl 0 rfl) ?_
  refine hp_getr X Y (C := RX5) (T := TX5) (N := 6) (ci := 5) (k := 0) rfl inX5_root_X5 (by decide) lkX5_root_f11 (cs_0 C) dX5_root_17 ?_
  refine lv_iload_n X.1 X.2.1 dX5_root_20 rfl (lv_at hl 2 rfl) ?_
  refine hp_aald X Y (v := z + 2 + 3 * i) (by rw [e2]; exact cs_r C hi) dX5_root_21 ?_
  refine hp_geti X Y (C := RX4) (T := TX4) (N := 2) (ci := 4) (k := 1) rfl inX5_root_X4 (by decide) lkX5_root_f56 (wz_s Ci.1) dX5_root_22 ?_
  have es : sI (R i) = 1 := if_pos h0
  rw [es]
  refine lv_if_eq (tgt := 38) X.1 X.2.1 dX5_root_25 (by decide) (fun c13 => absurd c13 (by decide)) (fun c13 => ?_)
  obtain ⟨sa, hstr⟩ := TW.2.2.2.1
  refine vx_throwS (A := hp_A h) X.1 X.2.1 hst (own := RX5) (cls := nmIE) (text := "no root of a number below 0") (names := ["java/lang/RuntimeException", "java/lang/Exception"]) (ik := 115) (is := 117) (ic := 119) X.2.2.2.1 (by decide +kernel) (by decide +kernel) (X.2.2.2.2.1 _ (by decide +kernel : Cond.classLink RX5 115 nmIE ∈ wsX5_root)) (X.2.2.2.2.1 _ (by decide +kernel : Cond.initialized nmIE ∈ wsX5_root)) hstr (vx_hat (fun w hw => X.2.2.2.2.1 w (List.mem_cons_of_mem _ (List.mem_append_right _ hw))) (show ∀ w ∈ (vx_atS RX5 119 nmIE ["java/lang/RuntimeException", "java/lang/Exception"]).filter (fun w => !goodWord w), w ∈ [dc1, dc2, dc3, .castable nmAE nmAE, .castable nmIE nmIE] by decide +kernel) (ht_words TW)) (by decide +kernel) TW.1 TW.2.1 Y.2.2 (by rw [X.2.2.1]; exact hl.1) dX5_root_28 dX5_root_31 dX5_root_32 dX5_root_34 dX5_root_37 (fun x hx => (hout x hx).elim) (by decide) (by decide) (by decide) (by decide) X.2.2.2.2.2.2.2 (fun t hvm h1 h2 => ht_X X.2.2.2.2.2.1 Y hvm h1 h2) Y.2.2.2.2 (by decide) (by decide)
