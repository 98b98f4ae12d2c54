/-! THE REFERENCE'S STATE: the object at y, its 8 arrays behind it; c the counts of x, y, z; t thrown; n letters -/
def LIM : Nat := 2 ^ 4096
theorem LIM_bl {v : Nat} : bl v ≤ 4096 ↔ v < LIM := bl_le
theorem LIM_nL : nL LIM ≤ 320 := nL_le (by
  have : bl LIM ≤ 4097 := bl_le.mpr (Nat.pow_lt_pow_right (by decide) (by decide))
  omega)
def mo (h : hp_H) (y : Nat) (c : Nat → Int32) (t : Int32) (n : Nat) : Prop := h y = some (.inr (.inr (.inr (6, [.ref (y + 1), .ref (y + 2), .ref (y + 3), .ref (y + 4), .int (nI (nL LIM)), .ref (y + 5 + 0), .ref (y + 5 + 1), .ref (y + 5 + 2), .int (c 0), .int (c 1), .int (c 2), .int t, .ref (y + 8), .int (nI n)]))))
def mr (h : hp_H) (y : Nat) (R : Nat → Int) : Prop := ∃ gd gl : Nat → Nat, ∃ s : Nat → Int32, ar h (y + 1) 2560 gd ∧ ar h (y + 2) 8 gl ∧ h (y + 3) = some (.inl (0, 8, s)) ∧ ∀ k, k < 8 → gl k = nL (R k).natAbs ∧ s k = cmpZ (R k) 0 ∧ bl (R k).natAbs ≤ 4096 ∧ ∀ i, i < nL (R k).natAbs → gd (320 * k + i) = di (R k).natAbs i
def mt (h : hp_H) (y : Nat) (T : Nat → Nat) (n : Nat) : Prop := (∃ g, ar h (y + 8) 4100 g ∧ ∀ i, i < n → g i = T i) ∧ n ≤ 4097 ∧ ∀ i, i < n → T i < 128
def mm (h : hp_H) (y : Nat) (R : Nat → Int) (T : Nat → Nat) (n : Nat) (c : Nat → Int32) (t : Int32) : Prop := mo h y c t n ∧ mr h y R ∧ mv h (y + 4) 320 LIM ∧ mt h y T n ∧ ∀ j, j < 3 → ∃ g, ar h (y + 5 + j) 700 g
theorem mm_o {h : hp_H} {y n : Nat} {R : Nat → Int} {T : Nat → Nat} {c : Nat → Int32} {t : Int32} (M : mm h y R T n c t) : hp_o h y 6 = true := by have := M.1; unfold mo at this; simp [hp_o, this]
theorem mm_r0 {h : hp_H} {y n : Nat} {R : Nat → Int} {T : Nat → Nat} {c : Nat → Int32} {t : Int32} (M : mm h y R T n c t) : hp_gr h y 6 0 = some (y + 1) := by have := M.1; unfold mo at this; simp [hp_gr, hp_gv, this]
theorem mm_r1 {h : hp_H} {y n : Nat} {R : Nat → Int} {T : Nat → Nat} {c : Nat → Int32} {t : Int32} (M : mm h y R T n c t) : hp_gr h y 6 1 = some (y + 2) := by have := M.1; unfold mo at this; simp [hp_gr, hp_gv, this]
theorem mm_r2 {h : hp_H} {y n : Nat} {R : Nat → Int} {T : Nat → Nat} {c : Nat → Int32} {t : Int32} (M : mm h y R T n c t) : hp_gr h y 6 2 = some (y + 3) := by have := M.1; unfold mo at this; simp [hp_gr, hp_gv, this]
theorem mm_r3 {h : hp_H} {y n : Nat} {R : Nat → Int} {T : Nat → Nat} {c : Nat → Int32} {t : Int32} (M : mm h y R T n c t) : hp_gr h y 6 3 = some (y + 4) := by have := M.1; unfold mo at this; simp [hp_gr, hp_gv, this]
theorem mm_i4 {h : hp_H} {y n : Nat} {R : Nat → Int} {T : Nat → Nat} {c : Nat → Int32} {t : Int32} (M : mm h y R T n c t) : hp_gi h y 6 4 = some (nI (nL LIM)) := by have := M.1; unfold mo at this; simp [hp_gi, hp_gv, this]
theorem mm_r5 {h : hp_H} {y n : Nat} {R : Nat → Int} {T : Nat → Nat} {c : Nat → Int32} {t : Int32} (M : mm h y R T n c t) : hp_gr h y 6 5 = some (y + 5 + 0) := by have := M.1; unfold mo at this; simp [hp_gr, hp_gv, this]
theorem mm_r6 {h : hp_H} {y n : Nat} {R : Nat → Int} {T : Nat → Nat} {c : Nat → Int32} {t : Int32} (M : mm h y R T n c t) : hp_gr h y 6 6 = some (y + 5 + 1) := by have := M.1; unfold mo at this; simp [hp_gr, hp_gv, this]
theorem mm_r7 {h : hp_H} {y n : Nat} {R : Nat → Int} {T : Nat → Nat} {c : Nat → Int32} {t : Int32} (M : mm h y R T n c t) : hp_gr h y 6 7 = some (y + 5 + 2) := by have := M.1; unfold mo at this; simp [hp_gr, hp_gv, this]
theorem mm_i8 {h : hp_H} {y n : Nat} {R : Nat → Int} {T : Nat → Nat} {c : Nat → Int32} {t : Int32} (M : mm h y R T n c t) : hp_gi h y 6 8 = some (c 0) := by have := M.1; unfold mo at this; simp [hp_gi, hp_gv, this]
theorem mm_i9 {h : hp_H} {y n : Nat} {R : Nat → Int} {T : Nat → Nat} {c : Nat → Int32} {t : Int32} (M : mm h y R T n c t) : hp_gi h y 6 9 = some (c 1) := by have := M.1; unfold mo at this; simp [hp_gi, hp_gv, this]
theorem mm_i10 {h : hp_H} {y n : Nat} {R : Nat → Int} {T : Nat → Nat} {c : Nat → Int32} {t : Int32} (M : mm h y R T n c t) : hp_gi h y 6 10 = some (c 2) := by have := M.1; unfold mo at this; simp [hp_gi, hp_gv, this]
theorem mm_i11 {h : hp_H} {y n : Nat} {R : Nat → Int} {T : Nat → Nat} {c : Nat → Int32} {t : Int32} (M : mm h y R T n c t) : hp_gi h y 6 11 = some t := by have := M.1; unfold mo at this; simp [hp_gi, hp_gv, this]
theorem mm_r12 {h : hp_H} {y n : Nat} {R : Nat → Int} {T : Nat → Nat} {c : Nat → Int32} {t : Int32} (M : mm h y R T n c t) : hp_gr h y 6 12 = some (y + 8) := by have := M.1; unfold mo at this; simp [hp_gr, hp_gv, this]
theorem mm_i13 {h : hp_H} {y n : Nat} {R : Nat → Int} {T : Nat → Nat} {c : Nat → Int32} {t : Int32} (M : mm h y R T n c t) : hp_gi h y 6 13 = some (nI n) := by have := M.1; unfold mo at this; simp [hp_gi, hp_gv, this]
/-- all but the object's own cell stays -/
theorem mm_self {h h' : hp_H} {y n m : Nat} {R : Nat → Int} {T : Nat → Nat} {c c' : Nat → Int32} {t t' : Int32} (M : mm h y R T n c t) (O : mo h' y c' t' m) (F : fr h h' y y) (hm : m = n) : mm h' y R T m c' t' := by
  subst hm
  obtain ⟨-, ⟨gd, gl, s, r1, r2, r3, r4⟩, m3, ⟨⟨g, x1, x2⟩, x3⟩, m5⟩ := M
  refine ⟨O, ⟨gd, gl, s, ar_fr r1 F (by omega) (by omega), ar_fr r2 F (by omega) (by omega), (F _ (by omega) (by omega)).trans r3, r4⟩, mv_fr m3 F (by omega) (by omega), ⟨⟨g, ar_fr x1 F (by omega) (by omega), x2⟩, x3⟩, fun j hj => ?_⟩
  obtain ⟨g, A⟩ := m5 j hj
  exact ⟨g, ar_fr A F (by omega) (by omega)⟩
theorem mo_pv {h : hp_H} {y n k : Nat} {v : Value} {c c' : Nat → Int32} {t t' : Int32} {m : Nat} (O : mo h y c t n) (hk : k < 14) (he : [Value.ref (y + 1), .ref (y + 2), .ref (y + 3), .ref (y + 4), .int (nI (nL LIM)), .ref (y + 5 + 0), .ref (y + 5 + 1), .ref (y + 5 + 2), .int (c 0), .int (c 1), .int (c 2), .int t, .ref (y + 8), .int (nI n)].set k v = [Value.ref (y + 1), .ref (y + 2), .ref (y + 3), .ref (y + 4), .int (nI (nL LIM)), .ref (y + 5 + 0), .ref (y + 5 + 1), .ref (y + 5 + 2), .int (c' 0), .int (c' 1), .int (c' 2), .int t', .ref (y + 8), .int (nI m)]) : ∃ h', hp_pv h y 6 k v = some h' ∧ mo h' y c' t' m ∧ fr h h' y y := by
  unfold mo at O
  refine ⟨va_up h y (some (.inr (.inr (.inr (6, [Value.ref (y + 1), .ref (y + 2), .ref (y + 3), .ref (y + 4), .int (nI (nL LIM)), .ref (y + 5 + 0), .ref (y + 5 + 1), .ref (y + 5 + 2), .int (c' 0), .int (c' 1), .int (c' 2), .int t', .ref (y + 8), .int (nI m)]))))), ?_, va_up_self _ _ _, fun q hq _ => va_up_ne _ _ hq⟩
  unfold hp_pv
  rw [O]
  exact (if_pos ⟨rfl, hk⟩).trans (by rw [he])
theorem mm_p8 {h : hp_H} {y n : Nat} {R : Nat → Int} {T : Nat → Nat} {c : Nat → Int32} {t : Int32} (M : mm h y R T n c t) (v : Int32) : ∃ h', hp_pv h y 6 8 (.int v) = some h' ∧ mm h' y R T n (va_up c 0 v) t ∧ fr h h' y y := by
  obtain ⟨h', q1, q2, q3⟩ := mo_pv (k := 8) (v := .int v) (c' := va_up c 0 v) (t' := t) (m := n) M.1 (by decide) rfl
  exact ⟨h', q1, mm_self M q2 q3 rfl, q3⟩
theorem mm_p9 {h : hp_H} {y n : Nat} {R : Nat → Int} {T : Nat → Nat} {c : Nat → Int32} {t : Int32} (M : mm h y R T n c t) (v : Int32) : ∃ h', hp_pv h y 6 9 (.int v) = some h' ∧ mm h' y R T n (va_up c 1 v) t ∧ fr h h' y y := by
  obtain ⟨h', q1, q2, q3⟩ := mo_pv (k := 9) (v := .int v) (c' := va_up c 1 v) (t' := t) (m := n) M.1 (by decide) rfl
  exact ⟨h', q1, mm_self M q2 q3 rfl, q3⟩
theorem mm_p10 {h : hp_H} {y n : Nat} {R : Nat → Int} {T : Nat → Nat} {c : Nat → Int32} {t : Int32} (M : mm h y R T n c t) (v : Int32) : ∃ h', hp_pv h y 6 10 (.int v) = some h' ∧ mm h' y R T n (va_up c 2 v) t ∧ fr h h' y y := by
  obtain ⟨h', q1, q2, q3⟩ := mo_pv (k := 10) (v := .int v) (c' := va_up c 2 v) (t' := t) (m := n) M.1 (by decide) rfl
  exact ⟨h', q1, mm_self M q2 q3 rfl, q3⟩
theorem mm_p11 {h : hp_H} {y n : Nat} {R : Nat → Int} {T : Nat → Nat} {c : Nat → Int32} {t : Int32} (M : mm h y R T n c t) (v : Int32) : ∃ h', hp_pv h y 6 11 (.int v) = some h' ∧ mm h' y R T n c v ∧ fr h h' y y := by
  obtain ⟨h', q1, q2, q3⟩ := mo_pv (k := 11) (v := .int v) (c' := c) (t' := v) (m := n) M.1 (by decide) rfl
  exact ⟨h', q1, mm_self M q2 q3 rfl, q3⟩
theorem mo_p13 {h : hp_H} {y n : Nat} {c : Nat → Int32} {t : Int32} (O : mo h y c t n) (m : Nat) : ∃ h', hp_pv h y 6 13 (.int (nI m)) = some h' ∧ mo h' y c t m ∧ fr h h' y y :=
  mo_pv (k := 13) (v := .int (nI m)) (c' := c) (t' := t) (m := m) O (by decide) rfl
/-- a row has changed -/
theorem mm_row {h h' : hp_H} {y n j : Nat} {R : Nat → Int} {T : Nat → Nat} {c : Nat → Int32} {t : Int32} (M : mm h y R T n c t) (hj : j < 3) (F : fr h h' (y + 5 + j) (y + 5 + j)) (G : ∃ g, ar h' (y + 5 + j) 700 g) : mm h' y R T n c t := by
  obtain ⟨o, ⟨gd, gl, s, r1, r2, r3, r4⟩, m3, ⟨⟨g, x1, x2⟩, x3⟩, m5⟩ := M
  refine ⟨(F _ (by omega) (by omega)).trans o, ⟨gd, gl, s, ar_fr r1 F (by omega) (by omega), ar_fr r2 F (by omega) (by omega), (F _ (by omega) (by omega)).trans r3, r4⟩, mv_fr m3 F (by omega) (by omega), ⟨⟨g, ar_fr x1 F (by omega) (by omega), x2⟩, x3⟩, fun i hi => ?_⟩
  by_cases q : i = j
  · rw [q]; exact G
  · obtain ⟨g, A⟩ := m5 i hi
    exact ⟨g, ar_fr A F (by omega) (by omega)⟩
theorem mv_ar {h : hp_H} {b N v : Nat} (V : mv h b N v) : ∃ g, ar h b N g := V.2.2.elim fun g hg => ⟨g, hg.1⟩
/-- row j holds a number, and its count is right -/
def rw_ (h : hp_H) (y : Nat) (c : Nat → Int32) (j v : Nat) : Prop := c j = nI (nL v) ∧ mv h (y + 5 + j) 700 v
theorem mm_reg {h : hp_H} {y n k : Nat} {R : Nat → Int} {T : Nat → Nat} {c : Nat → Int32} {t : Int32} (M : mm h y R T n c t) (hk : k < 8) : hp_ai h 0 (y + 2) (nI k) = some (nI (nL (R k).natAbs)) ∧ hp_ai h 0 (y + 3) (nI k) = some (cmpZ (R k) 0) ∧ bl (R k).natAbs ≤ 4096 ∧ nL (R k).natAbs ≤ 320 := by
  obtain ⟨-, ⟨gd, gl, s, r1, r2, r3, r4⟩, -⟩ := M
  obtain ⟨e1, e2, e3, e4⟩ := r4 k hk
  refine ⟨?_, ?_, e3, nL_le (by omega)⟩
  · rw [ar_rd r2 hk (by omega), e1]
  · have h1 : ¬ nI k < 0 := nI_lt0 (by omega)
    have h2 : (nI k).toNatClampNeg = k := nI_cl (by omega)
    have h3 : ¬ 8 ≤ k := by omega
    simp [hp_ai, r3, h1, h2, h3, e2]
theorem mm_dig {h : hp_H} {y n k i : Nat} {R : Nat → Int} {T : Nat → Nat} {c : Nat → Int32} {t : Int32} (M : mm h y R T n c t) (hk : k < 8) (hi : i < nL (R k).natAbs) : hp_ai h 0 (y + 1) ((320 : Int32) * nI k + nI i) = some (nI (di (R k).natAbs i)) := by
  have b := (mm_reg M hk).2.2.2
  obtain ⟨-, ⟨gd, gl, s, r1, r2, r3, r4⟩, -⟩ := M
  obtain ⟨e1, e2, e3, e4⟩ := r4 k hk
  rw [show (320 : Int32) = nI 320 from rfl, nI_mul, nI_add, ar_rd r1 (by omega) (by omega), e4 i hi]
theorem isReg6 (x : Int32) : fX6_isRegister x = fX5_isRegister x := by
  unfold fX6_isRegister fX5_isRegister
  by_cases h0 : x < 0
  · rw [if_pos h0, if_pos h0]
  · rw [if_neg h0, if_neg h0]
    obtain ⟨j, hj, rfl⟩ := nI_of h0
    by_cases h1 : 7 < j
    · rw [if_pos (show (7 : Int32) < nI j from (nI_ltI (a := 7) (by omega) (by omega)).mpr h1), if_pos (show (8 : Int32) ≤ nI j from (nI_leI (a := 8) (by omega) (by omega)).mpr (by omega))]
    · rw [if_neg (show ¬ (7 : Int32) < nI j from fun q => h1 ((nI_ltI (a := 7) (by omega) (by omega)).mp q)), if_neg (show ¬ (8 : Int32) ≤ nI j from fun q => by have := (nI_leI (a := 8) (by omega) (by omega)).mp q; omega)]
