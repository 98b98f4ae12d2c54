/-! The class's state behind its constructor (laid by wip/start5.py) -/
theorem nv_new {h : hp_H} {a b : Nat} (hab : a ≠ b) (h1 : h a = some (.inr (.inr (.inr (2, [.ref b, .int 0]))))) (h2 : h b = some (.inl (0, 140, fun _ => 0))) : nv h a b 0 :=
  ⟨0, fun _ => 0, ⟨⟨hab, h1, h2⟩, by omega, fun i hi => by omega, fun q => by omega⟩, rfl⟩
theorem k5_0 (h : hp_H) (z : Nat) : k5 h z (z + 1) (z + 0) = some (.inr (.inr (.inr (5, [.ref (z + 1), .ref (z + 26), .ref (z + 29), .ref (z + 32), .ref (z + 39), .ref (z + 44)])))) := by
  simp [k5, k4, k3, k2, k1, jT, iT, jE, iE, jD, iD, jN, iN, jW, iW, va_up]
theorem k5_1 (h : hp_H) (z : Nat) : k5 h z (z + 1) (z + 1) = some (.inr (.inr (.inl (8, fR (z + 1) 8)))) := by
  simp [k5, k4, k3, k2, k1, jT, iT, jE, iE, jD, iD, jN, iN, jW, iW, va_up, jL]
theorem k5_2 (h : hp_H) (z : Nat) : k5 h z (z + 1) (z + 2) = some (.inr (.inr (.inr (4, [.ref (z + 3), .int 0])))) := by
  simp [k5, k4, k3, k2, k1, jT, iT, jE, iE, jD, iD, jN, iN, jW, iW, va_up, jL]
theorem k5_3 (h : hp_H) (z : Nat) : k5 h z (z + 1) (z + 3) = some (.inr (.inr (.inr (2, [.ref (z + 4), .int 0])))) := by
  simp [k5, k4, k3, k2, k1, jT, iT, jE, iE, jD, iD, jN, iN, jW, iW, va_up, jL]
theorem k5_4 (h : hp_H) (z : Nat) : k5 h z (z + 1) (z + 4) = some (.inl (0, 140, fun _ => 0)) := by
  simp [k5, k4, k3, k2, k1, jT, iT, jE, iE, jD, iD, jN, iN, jW, iW, va_up, jL]
theorem k5_5 (h : hp_H) (z : Nat) : k5 h z (z + 1) (z + 5) = some (.inr (.inr (.inr (4, [.ref (z + 6), .int 0])))) := by
  simp [k5, k4, k3, k2, k1, jT, iT, jE, iE, jD, iD, jN, iN, jW, iW, va_up, jL]
theorem k5_6 (h : hp_H) (z : Nat) : k5 h z (z + 1) (z + 6) = some (.inr (.inr (.inr (2, [.ref (z + 7), .int 0])))) := by
  simp [k5, k4, k3, k2, k1, jT, iT, jE, iE, jD, iD, jN, iN, jW, iW, va_up, jL]
theorem k5_7 (h : hp_H) (z : Nat) : k5 h z (z + 1) (z + 7) = some (.inl (0, 140, fun _ => 0)) := by
  simp [k5, k4, k3, k2, k1, jT, iT, jE, iE, jD, iD, jN, iN, jW, iW, va_up, jL]
theorem k5_8 (h : hp_H) (z : Nat) : k5 h z (z + 1) (z + 8) = some (.inr (.inr (.inr (4, [.ref (z + 9), .int 0])))) := by
  simp [k5, k4, k3, k2, k1, jT, iT, jE, iE, jD, iD, jN, iN, jW, iW, va_up, jL]
theorem k5_9 (h : hp_H) (z : Nat) : k5 h z (z + 1) (z + 9) = some (.inr (.inr (.inr (2, [.ref (z + 10), .int 0])))) := by
  simp [k5, k4, k3, k2, k1, jT, iT, jE, iE, jD, iD, jN, iN, jW, iW, va_up, jL]
theorem k5_10 (h : hp_H) (z : Nat) : k5 h z (z + 1) (z + 10) = some (.inl (0, 140, fun _ => 0)) := by
  simp [k5, k4, k3, k2, k1, jT, iT, jE, iE, jD, iD, jN, iN, jW, iW, va_up, jL]
theorem k5_11 (h : hp_H) (z : Nat) : k5 h z (z + 1) (z + 11) = some (.inr (.inr (.inr (4, [.ref (z + 12), .int 0])))) := by
  simp [k5, k4, k3, k2, k1, jT, iT, jE, iE, jD, iD, jN, iN, jW, iW, va_up, jL]
theorem k5_12 (h : hp_H) (z : Nat) : k5 h z (z + 1) (z + 12) = some (.inr (.inr (.inr (2, [.ref (z + 13), .int 0])))) := by
  simp [k5, k4, k3, k2, k1, jT, iT, jE, iE, jD, iD, jN, iN, jW, iW, va_up, jL]
theorem k5_13 (h : hp_H) (z : Nat) : k5 h z (z + 1) (z + 13) = some (.inl (0, 140, fun _ => 0)) := by
  simp [k5, k4, k3, k2, k1, jT, iT, jE, iE, jD, iD, jN, iN, jW, iW, va_up, jL]
theorem k5_14 (h : hp_H) (z : Nat) : k5 h z (z + 1) (z + 14) = some (.inr (.inr (.inr (4, [.ref (z + 15), .int 0])))) := by
  simp [k5, k4, k3, k2, k1, jT, iT, jE, iE, jD, iD, jN, iN, jW, iW, va_up, jL]
theorem k5_15 (h : hp_H) (z : Nat) : k5 h z (z + 1) (z + 15) = some (.inr (.inr (.inr (2, [.ref (z + 16), .int 0])))) := by
  simp [k5, k4, k3, k2, k1, jT, iT, jE, iE, jD, iD, jN, iN, jW, iW, va_up, jL]
theorem k5_16 (h : hp_H) (z : Nat) : k5 h z (z + 1) (z + 16) = some (.inl (0, 140, fun _ => 0)) := by
  simp [k5, k4, k3, k2, k1, jT, iT, jE, iE, jD, iD, jN, iN, jW, iW, va_up, jL]
theorem k5_17 (h : hp_H) (z : Nat) : k5 h z (z + 1) (z + 17) = some (.inr (.inr (.inr (4, [.ref (z + 18), .int 0])))) := by
  simp [k5, k4, k3, k2, k1, jT, iT, jE, iE, jD, iD, jN, iN, jW, iW, va_up, jL]
theorem k5_18 (h : hp_H) (z : Nat) : k5 h z (z + 1) (z + 18) = some (.inr (.inr (.inr (2, [.ref (z + 19), .int 0])))) := by
  simp [k5, k4, k3, k2, k1, jT, iT, jE, iE, jD, iD, jN, iN, jW, iW, va_up, jL]
theorem k5_19 (h : hp_H) (z : Nat) : k5 h z (z + 1) (z + 19) = some (.inl (0, 140, fun _ => 0)) := by
  simp [k5, k4, k3, k2, k1, jT, iT, jE, iE, jD, iD, jN, iN, jW, iW, va_up, jL]
theorem k5_20 (h : hp_H) (z : Nat) : k5 h z (z + 1) (z + 20) = some (.inr (.inr (.inr (4, [.ref (z + 21), .int 0])))) := by
  simp [k5, k4, k3, k2, k1, jT, iT, jE, iE, jD, iD, jN, iN, jW, iW, va_up, jL]
theorem k5_21 (h : hp_H) (z : Nat) : k5 h z (z + 1) (z + 21) = some (.inr (.inr (.inr (2, [.ref (z + 22), .int 0])))) := by
  simp [k5, k4, k3, k2, k1, jT, iT, jE, iE, jD, iD, jN, iN, jW, iW, va_up, jL]
theorem k5_22 (h : hp_H) (z : Nat) : k5 h z (z + 1) (z + 22) = some (.inl (0, 140, fun _ => 0)) := by
  simp [k5, k4, k3, k2, k1, jT, iT, jE, iE, jD, iD, jN, iN, jW, iW, va_up, jL]
theorem k5_23 (h : hp_H) (z : Nat) : k5 h z (z + 1) (z + 23) = some (.inr (.inr (.inr (4, [.ref (z + 24), .int 0])))) := by
  simp [k5, k4, k3, k2, k1, jT, iT, jE, iE, jD, iD, jN, iN, jW, iW, va_up, jL]
theorem k5_24 (h : hp_H) (z : Nat) : k5 h z (z + 1) (z + 24) = some (.inr (.inr (.inr (2, [.ref (z + 25), .int 0])))) := by
  simp [k5, k4, k3, k2, k1, jT, iT, jE, iE, jD, iD, jN, iN, jW, iW, va_up, jL]
theorem k5_25 (h : hp_H) (z : Nat) : k5 h z (z + 1) (z + 25) = some (.inl (0, 140, fun _ => 0)) := by
  simp [k5, k4, k3, k2, k1, jT, iT, jE, iE, jD, iD, jN, iN, jW, iW, va_up, jL]
theorem k5_26 (h : hp_H) (z : Nat) : k5 h z (z + 1) (z + 26) = some (.inr (.inr (.inr (4, [.ref (z + 27), .int 0])))) := by
  simp [k5, k4, k3, k2, k1, jT, iT, jE, iE, jD, iD, jN, iN, jW, iW, va_up]
theorem k5_27 (h : hp_H) (z : Nat) : k5 h z (z + 1) (z + 27) = some (.inr (.inr (.inr (2, [.ref (z + 28), .int 0])))) := by
  simp [k5, k4, k3, k2, k1, jT, iT, jE, iE, jD, iD, jN, iN, jW, iW, va_up]
theorem k5_28 (h : hp_H) (z : Nat) : k5 h z (z + 1) (z + 28) = some (.inl (0, 140, fun _ => 0)) := by
  simp [k5, k4, k3, k2, k1, jT, iT, jE, iE, jD, iD, jN, iN, jW, iW, va_up]
theorem k5_29 (h : hp_H) (z : Nat) : k5 h z (z + 1) (z + 29) = some (.inr (.inr (.inr (4, [.ref (z + 30), .int 0])))) := by
  simp [k5, k4, k3, k2, k1, jT, iT, jE, iE, jD, iD, jN, iN, jW, iW, va_up]
theorem k5_30 (h : hp_H) (z : Nat) : k5 h z (z + 1) (z + 30) = some (.inr (.inr (.inr (2, [.ref (z + 31), .int 0])))) := by
  simp [k5, k4, k3, k2, k1, jT, iT, jE, iE, jD, iD, jN, iN, jW, iW, va_up]
theorem k5_31 (h : hp_H) (z : Nat) : k5 h z (z + 1) (z + 31) = some (.inl (0, 140, fun _ => 0)) := by
  simp [k5, k4, k3, k2, k1, jT, iT, jE, iE, jD, iD, jN, iN, jW, iW, va_up]
theorem k5_32 (h : hp_H) (z : Nat) : k5 h z (z + 1) (z + 32) = some (.inr (.inr (.inr (1, [.ref (z + 33), .ref (z + 35), .ref (z + 37)])))) := by
  simp [k5, k4, k3, k2, k1, jT, iT, jE, iE, jD, iD, jN, iN, jW, iW, va_up]
theorem k5_33 (h : hp_H) (z : Nat) : k5 h z (z + 1) (z + 33) = some (.inr (.inr (.inr (2, [.ref (z + 34), .int 0])))) := by
  simp [k5, k4, k3, k2, k1, jT, iT, jE, iE, jD, iD, jN, iN, jW, iW, va_up]
theorem k5_34 (h : hp_H) (z : Nat) : k5 h z (z + 1) (z + 34) = some (.inl (0, 140, fun _ => 0)) := by
  simp [k5, k4, k3, k2, k1, jT, iT, jE, iE, jD, iD, jN, iN, jW, iW, va_up]
theorem k5_35 (h : hp_H) (z : Nat) : k5 h z (z + 1) (z + 35) = some (.inr (.inr (.inr (2, [.ref (z + 36), .int 0])))) := by
  simp [k5, k4, k3, k2, k1, jT, iT, jE, iE, jD, iD, jN, iN, jW, iW, va_up]
theorem k5_36 (h : hp_H) (z : Nat) : k5 h z (z + 1) (z + 36) = some (.inl (0, 140, fun _ => 0)) := by
  simp [k5, k4, k3, k2, k1, jT, iT, jE, iE, jD, iD, jN, iN, jW, iW, va_up]
theorem k5_37 (h : hp_H) (z : Nat) : k5 h z (z + 1) (z + 37) = some (.inr (.inr (.inr (2, [.ref (z + 38), .int 0])))) := by
  simp [k5, k4, k3, k2, k1, jT, iT, jE, iE, jD, iD, jN, iN, jW, iW, va_up]
theorem k5_38 (h : hp_H) (z : Nat) : k5 h z (z + 1) (z + 38) = some (.inl (0, 140, fun _ => 0)) := by
  simp [k5, k4, k3, k2, k1, jT, iT, jE, iE, jD, iD, jN, iN, jW, iW, va_up]
theorem k5_40 (h : hp_H) (z : Nat) : k5 h z (z + 1) (z + 40) = some (.inr (.inr (.inr (2, [.ref (z + 41), .int 0])))) := by
  simp [k5, k4, k3, k2, k1, jT, iT, jE, iE, jD, iD, jN, iN, jW, iW, va_up]
theorem k5_41 (h : hp_H) (z : Nat) : k5 h z (z + 1) (z + 41) = some (.inl (0, 140, fun _ => 0)) := by
  simp [k5, k4, k3, k2, k1, jT, iT, jE, iE, jD, iD, jN, iN, jW, iW, va_up]
theorem k5_42 (h : hp_H) (z : Nat) : k5 h z (z + 1) (z + 42) = some (.inr (.inr (.inr (2, [.ref (z + 43), .int 0])))) := by
  simp [k5, k4, k3, k2, k1, jT, iT, jE, iE, jD, iD, jN, iN, jW, iW, va_up]
theorem k5_43 (h : hp_H) (z : Nat) : k5 h z (z + 1) (z + 43) = some (.inl (0, 140, fun _ => 0)) := by
  simp [k5, k4, k3, k2, k1, jT, iT, jE, iE, jD, iD, jN, iN, jW, iW, va_up]
theorem k5_39 (h : hp_H) (z : Nat) : k5 h z (z + 1) (z + 39) = some (.inr (.inr (.inr (0, [.ref (z + 40), .ref (z + 42), .long 0, .long 0, .long 0, .long 0])))) := by
  simp [k5, k4, k3, k2, k1, jT, iT, jE, iE, jD, iD, jN, iN, jW, iW, va_up]
theorem k5_44 (h : hp_H) (z : Nat) : k5 h z (z + 1) (z + 44) = some (.inr (.inr (.inr (3, [.ref (z + 45), .int 0])))) := by
  simp [k5, k4, k3, k2, k1, jT, iT, jE, iE, jD, iD, jN, iN, jW, iW, va_up]
theorem k5_45 (h : hp_H) (z : Nat) : k5 h z (z + 1) (z + 45) = some (.inl (1, 4097, fun _ => 0)) := by
  simp [k5, k4, k3, k2, k1, jT, iT, jE, iE, jD, iD, jN, iN, jW, iW, va_up]
theorem cs_new (h : hp_H) (z : Nat) (T : Nat → Nat) : cs (k5 h z (z + 1)) z (fun _ => 0) T 0 := by
  refine ⟨⟨k5_0 h z, fR (z + 1) 8, k5_1 h z, fun i hi => ?_⟩, fun k hk => ?_, ⟨0, ⟨0, k5_26 h z⟩, nv_new (by omega) (k5_27 h z) (k5_28 h z)⟩, ⟨0, ⟨0, k5_29 h z⟩, nv_new (by omega) (k5_30 h z) (k5_31 h z)⟩, ⟨k5_32 h z, ⟨0, nv_new (by omega) (k5_33 h z) (k5_34 h z)⟩, ⟨0, nv_new (by omega) (k5_35 h z) (k5_36 h z)⟩, ⟨0, nv_new (by omega) (k5_37 h z) (k5_38 h z)⟩⟩, ⟨z + 40, z + 41, z + 42, z + 43, 0, 0, 0, 0, 0, 0, k5_39 h z, nv_new (by omega) (k5_40 h z) (k5_41 h z), nv_new (by omega) (k5_42 h z) (k5_43 h z), Or.inl ⟨rfl, rfl, rfl, rfl⟩⟩, k5_44 h z, ⟨fun _ => 0, k5_45 h z, fun i hi => by omega⟩, by omega, fun i hi => by omega⟩
  · rcases (show i = 0 ∨ i = 1 ∨ i = 2 ∨ i = 3 ∨ i = 4 ∨ i = 5 ∨ i = 6 ∨ i = 7 by omega) with rfl | rfl | rfl | rfl | rfl | rfl | rfl | rfl <;> simp [fR, va_up] <;> omega
  · refine ⟨?_, (show bl (0 : Int).natAbs ≤ 4096 by decide)⟩
    rcases (show k = 0 ∨ k = 1 ∨ k = 2 ∨ k = 3 ∨ k = 4 ∨ k = 5 ∨ k = 6 ∨ k = 7 by omega) with rfl | rfl | rfl | rfl | rfl | rfl | rfl | rfl
    · exact ⟨k5_2 h z, nv_new (by omega) (k5_3 h z) (k5_4 h z)⟩
    · exact ⟨k5_5 h z, nv_new (by omega) (k5_6 h z) (k5_7 h z)⟩
    · exact ⟨k5_8 h z, nv_new (by omega) (k5_9 h z) (k5_10 h z)⟩
    · exact ⟨k5_11 h z, nv_new (by omega) (k5_12 h z) (k5_13 h z)⟩
    · exact ⟨k5_14 h z, nv_new (by omega) (k5_15 h z) (k5_16 h z)⟩
    · exact ⟨k5_17 h z, nv_new (by omega) (k5_18 h z) (k5_19 h z)⟩
    · exact ⟨k5_20 h z, nv_new (by omega) (k5_21 h z) (k5_22 h z)⟩
    · exact ⟨k5_23 h z, nv_new (by omega) (k5_24 h z) (k5_25 h z)⟩
